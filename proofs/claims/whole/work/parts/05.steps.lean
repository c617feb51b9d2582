/-! one instruction, one row: G at an instruction from G at the next -/
def lget : List (Nat × Value) → Nat → Option Value
  | [], _ => none
  | (j, v) :: t, i => bif Nat.beq j i then some v else lget t i
def lins (i : Nat) (v : Value) : List (Nat × Value) → List (Nat × Value)
  | [] => [(i, v)]
  | (j, w) :: t => bif Nat.blt i j then (i, v) :: (j, w) :: t else (j, w) :: lins i v t
def lst1 (i : Nat) (v : Value) (L : List (Nat × Value)) : List (Nat × Value) := lins i v (L.filter (fun q => !(q.1 == i) && !(q.1 + 1 == i && q.2.category == 2)))
def lst2 (i : Nat) (v : Value) (L : List (Nat × Value)) : List (Nat × Value) := lins i v (L.filter (fun q => !(q.1 == i) && (!(q.1 == i + 1) && !(q.1 + 1 == i && q.2.category == 2))))
theorem lget_mem : ∀ {L : List (Nat × Value)} {i : Nat} {v : Value}, lget L i = some v → (i, v) ∈ L
  | [], _, _, h => by cases h
  | (j, w) :: t, i, v, h => by
    unfold lget at h
    cases e : Nat.beq j i with
    | true =>
      rw [e] at h
      cases h
      rw [Nat.eq_of_beq_eq_true e]
      exact List.mem_cons_self
    | false =>
      rw [e] at h
      exact List.mem_cons_of_mem _ (lget_mem h)
theorem lins_mem {i : Nat} {v : Value} : ∀ {L : List (Nat × Value)} {q : Nat × Value}, q ∈ lins i v L → q = (i, v) ∨ q ∈ L
  | [], q, h => Or.inl (List.mem_singleton.mp h)
  | (j, w) :: t, q, h => by
    unfold lins at h
    cases e : Nat.blt i j with
    | true =>
      rw [e] at h
      rcases List.mem_cons.mp h with h | h
      · exact Or.inl h
      · exact Or.inr h
    | false =>
      rw [e] at h
      rcases List.mem_cons.mp h with h | h
      · exact Or.inr (h ▸ List.mem_cons_self)
      · rcases lins_mem h with h | h
        · exact Or.inl h
        · exact Or.inr (List.mem_cons_of_mem _ h)
theorem lget_at {ad : Nat → Nat} {ls : Array Slot} {nL i : Nat} {v : Value} {L : List (Nat × Value)} (h : lv_has ls nL (renL ad L)) (hv : lget L i = some v) : ls[i]? = some (.val (ren ad v)) := h.2.2 (i, ren ad v) (List.mem_map.mpr ⟨(i, v), lget_mem hv, rfl⟩)
theorem lst1_has {ad : Nat → Nat} {ls : Array Slot} {nL i : Nat} {v : Value} {L : List (Nat × Value)} (h : lv_has ls nL ((i, ren ad v) :: (renL ad L).filter (fun q => !(q.1 == i) && !(q.1 + 1 == i && q.2.category == 2)))) : lv_has ls nL (renL ad (lst1 i v L)) := by
  refine ⟨h.1, h.2.1, fun q hq => ?_⟩
  obtain ⟨r, h1, rfl⟩ := List.mem_map.mp hq
  refine h.2.2 _ ?_
  rcases lins_mem h1 with rfl | h1
  · exact List.mem_cons_self
  · obtain ⟨h2, h3⟩ := List.mem_filter.mp h1
    exact List.mem_cons_of_mem _ (List.mem_filter.mpr ⟨List.mem_map.mpr ⟨r, h2, rfl⟩, by rw [ren_cat]; exact h3⟩)
theorem lst2_has {ad : Nat → Nat} {ls : Array Slot} {nL i : Nat} {v : Value} {L : List (Nat × Value)} (h : lv_has ls nL ((i, ren ad v) :: (renL ad L).filter (fun q => !(q.1 == i) && (!(q.1 == i + 1) && !(q.1 + 1 == i && q.2.category == 2))))) : lv_has ls nL (renL ad (lst2 i v L)) := by
  refine ⟨h.1, h.2.1, fun q hq => ?_⟩
  obtain ⟨r, h1, rfl⟩ := List.mem_map.mp hq
  refine h.2.2 _ ?_
  rcases lins_mem h1 with rfl | h1
  · exact List.mem_cons_self
  · obtain ⟨h2, h3⟩ := List.mem_filter.mp h1
    exact List.mem_cons_of_mem _ (List.mem_filter.mpr ⟨List.mem_map.mpr ⟨r, h2, rfl⟩, by rw [ren_cat]; exact h3⟩)
section GS
variable {own : String} {b : ByteArray} {nL : Nat} {ret : Option FieldType} {E : GE} {h : Nat} {Q : Option Value → Mem → Prop} {pc : Nat} {L : List (Nat × Value)} {rest : List Value} {M : Mem}
theorem g_iconst {n : Int} (hdg : decode b pc = .ok (.iconst n, 1)) (k : G own b nL ret E (pc + 1) L (.int (zI n) :: rest) M) : G own b nL ret E pc L (rest) M := by
  intro p l e s m args below meth c D cI cZ cS ad A C CX H locs ls hP hD hS hl
  exact lv_iconst C.1 C.2.1 hdg rfl (k p l e s m args below meth c D cI cZ cS ad A C CX H locs ls hP hD hS hl)
theorem g_bipush {n : Int} (hv : (Int8.ofInt n).toInt32 = zI n) (hdg : decode b pc = .ok (.bipush n, 2)) (k : G own b nL ret E (pc + 2) L (.int (zI n) :: rest) M) : G own b nL ret E pc L (rest) M := by
  intro p l e s m args below meth c D cI cZ cS ad A C CX H locs ls hP hD hS hl
  exact lv_bipush C.1 C.2.1 hdg hv (k p l e s m args below meth c D cI cZ cS ad A C CX H locs ls hP hD hS hl)
theorem g_sipush {n : Int} (hv : (Int16.ofInt n).toInt32 = zI n) (hdg : decode b pc = .ok (.sipush n, 3)) (k : G own b nL ret E (pc + 3) L (.int (zI n) :: rest) M) : G own b nL ret E pc L (rest) M := by
  intro p l e s m args below meth c D cI cZ cS ad A C CX H locs ls hP hD hS hl
  exact lv_sipush C.1 C.2.1 hdg hv (k p l e s m args below meth c D cI cZ cS ad A C CX H locs ls hP hD hS hl)
theorem g_lconst {n : Fin 2} {v : Int64} (hv : Int64.ofNat (n : Nat) = v) (hdg : decode b pc = .ok (.lconst n, 1)) (k : G own b nL ret E (pc + 1) L (.long v :: rest) M) : G own b nL ret E pc L (rest) M := by
  intro p l e s m args below meth c D cI cZ cS ad A C CX H locs ls hP hD hS hl
  exact lv_lconst C.1 C.2.1 hdg hv (k p l e s m args below meth c D cI cZ cS ad A C CX H locs ls hP hD hS hl)
theorem g_iload_n {i : Fin 4} {x : Int32} (hv : lget L (i : Nat) = some (.int x)) (hdg : decode b pc = .ok (.iload_n i, 1)) (k : G own b nL ret E (pc + 1) L (.int x :: rest) M) : G own b nL ret E pc L (rest) M := by
  intro p l e s m args below meth c D cI cZ cS ad A C CX H locs ls hP hD hS hl
  exact lv_iload_n C.1 C.2.1 hdg rfl (lget_at hl hv) (k p l e s m args below meth c D cI cZ cS ad A C CX H locs ls hP hD hS hl)
theorem g_iload {i : Nat} {x : Int32} (hv : lget L i = some (.int x)) (hdg : decode b pc = .ok (.iload i, 2)) (k : G own b nL ret E (pc + 2) L (.int x :: rest) M) : G own b nL ret E pc L (rest) M := by
  intro p l e s m args below meth c D cI cZ cS ad A C CX H locs ls hP hD hS hl
  exact lv_iload C.1 C.2.1 hdg (lget_at hl hv) (k p l e s m args below meth c D cI cZ cS ad A C CX H locs ls hP hD hS hl)
theorem g_istore_n {i : Fin 4} {x : Int32} {L2 : List (Nat × Value)} (hn : (i : Nat) < nL) (hL : lst1 (i : Nat) (.int x) L = L2) (hdg : decode b pc = .ok (.istore_n i, 1)) (k : G own b nL ret E (pc + 1) L2 rest M) : G own b nL ret E pc L (.int x :: rest) M := by
  intro p l e s m args below meth c D cI cZ cS ad A C CX H locs ls hP hD hS hl
  subst hL
  exact lv_istore_n C.1 C.2.1 hdg rfl hl hn rfl (fun ls hl => k p l e s m args below meth c D cI cZ cS ad A C CX H locs ls hP hD hS (lst1_has hl))
theorem g_istore {i : Nat} {x : Int32} {L2 : List (Nat × Value)} (hn : (i : Nat) < nL) (hL : lst1 (i : Nat) (.int x) L = L2) (hdg : decode b pc = .ok (.istore i, 2)) (k : G own b nL ret E (pc + 2) L2 rest M) : G own b nL ret E pc L (.int x :: rest) M := by
  intro p l e s m args below meth c D cI cZ cS ad A C CX H locs ls hP hD hS hl
  subst hL
  exact lv_istore C.1 C.2.1 hdg hl hn rfl (fun ls hl => k p l e s m args below meth c D cI cZ cS ad A C CX H locs ls hP hD hS (lst1_has hl))
theorem g_lload_n {i : Fin 4} {x : Int64} (hv : lget L (i : Nat) = some (.long x)) (hdg : decode b pc = .ok (.lload_n i, 1)) (k : G own b nL ret E (pc + 1) L (.long x :: rest) M) : G own b nL ret E pc L (rest) M := by
  intro p l e s m args below meth c D cI cZ cS ad A C CX H locs ls hP hD hS hl
  exact lv_lload_n C.1 C.2.1 hdg rfl (lget_at hl hv) (k p l e s m args below meth c D cI cZ cS ad A C CX H locs ls hP hD hS hl)
theorem g_lload {i : Nat} {x : Int64} (hv : lget L i = some (.long x)) (hdg : decode b pc = .ok (.lload i, 2)) (k : G own b nL ret E (pc + 2) L (.long x :: rest) M) : G own b nL ret E pc L (rest) M := by
  intro p l e s m args below meth c D cI cZ cS ad A C CX H locs ls hP hD hS hl
  exact lv_lload C.1 C.2.1 hdg (lget_at hl hv) (k p l e s m args below meth c D cI cZ cS ad A C CX H locs ls hP hD hS hl)
theorem g_lstore_n {i : Fin 4} {x : Int64} {L2 : List (Nat × Value)} (hn : (i : Nat) + 1 < nL) (hL : lst2 (i : Nat) (.long x) L = L2) (hdg : decode b pc = .ok (.lstore_n i, 1)) (k : G own b nL ret E (pc + 1) L2 rest M) : G own b nL ret E pc L (.long x :: rest) M := by
  intro p l e s m args below meth c D cI cZ cS ad A C CX H locs ls hP hD hS hl
  subst hL
  exact lv_lstore_n C.1 C.2.1 hdg rfl hl hn rfl (fun ls hl => k p l e s m args below meth c D cI cZ cS ad A C CX H locs ls hP hD hS (lst2_has hl))
theorem g_lstore {i : Nat} {x : Int64} {L2 : List (Nat × Value)} (hn : (i : Nat) + 1 < nL) (hL : lst2 (i : Nat) (.long x) L = L2) (hdg : decode b pc = .ok (.lstore i, 2)) (k : G own b nL ret E (pc + 2) L2 rest M) : G own b nL ret E pc L (.long x :: rest) M := by
  intro p l e s m args below meth c D cI cZ cS ad A C CX H locs ls hP hD hS hl
  subst hL
  exact lv_lstore C.1 C.2.1 hdg hl hn rfl (fun ls hl => k p l e s m args below meth c D cI cZ cS ad A C CX H locs ls hP hD hS (lst2_has hl))
theorem g_aload_n {i : Fin 4} {x : Nat} (hv : lget L (i : Nat) = some (.ref x)) (hdg : decode b pc = .ok (.aload_n i, 1)) (k : G own b nL ret E (pc + 1) L (.ref x :: rest) M) : G own b nL ret E pc L (rest) M := by
  intro p l e s m args below meth c D cI cZ cS ad A C CX H locs ls hP hD hS hl
  exact lv_aload_n C.1 C.2.1 hdg rfl (lget_at hl hv) (k p l e s m args below meth c D cI cZ cS ad A C CX H locs ls hP hD hS hl)
theorem g_aload {i : Nat} {x : Nat} (hv : lget L i = some (.ref x)) (hdg : decode b pc = .ok (.aload i, 2)) (k : G own b nL ret E (pc + 2) L (.ref x :: rest) M) : G own b nL ret E pc L (rest) M := by
  intro p l e s m args below meth c D cI cZ cS ad A C CX H locs ls hP hD hS hl
  exact lv_aload C.1 C.2.1 hdg (lget_at hl hv) (k p l e s m args below meth c D cI cZ cS ad A C CX H locs ls hP hD hS hl)
theorem g_astore_n {i : Fin 4} {x : Nat} {L2 : List (Nat × Value)} (hn : (i : Nat) < nL) (hL : lst1 (i : Nat) (.ref x) L = L2) (hdg : decode b pc = .ok (.astore_n i, 1)) (k : G own b nL ret E (pc + 1) L2 rest M) : G own b nL ret E pc L (.ref x :: rest) M := by
  intro p l e s m args below meth c D cI cZ cS ad A C CX H locs ls hP hD hS hl
  subst hL
  exact lv_astore_n C.1 C.2.1 hdg rfl hl hn rfl (fun ls hl => k p l e s m args below meth c D cI cZ cS ad A C CX H locs ls hP hD hS (lst1_has hl))
theorem g_astore {i : Nat} {x : Nat} {L2 : List (Nat × Value)} (hn : (i : Nat) < nL) (hL : lst1 (i : Nat) (.ref x) L = L2) (hdg : decode b pc = .ok (.astore i, 2)) (k : G own b nL ret E (pc + 2) L2 rest M) : G own b nL ret E pc L (.ref x :: rest) M := by
  intro p l e s m args below meth c D cI cZ cS ad A C CX H locs ls hP hD hS hl
  subst hL
  exact lv_astore C.1 C.2.1 hdg hl hn rfl (fun ls hl => k p l e s m args below meth c D cI cZ cS ad A C CX H locs ls hP hD hS (lst1_has hl))
theorem g_iinc {i : Nat} {n : Int} {x : Int32} {L2 : List (Nat × Value)} (hv : lget L i = some (.int x)) (hn : i < nL) (hL : lst1 i (.int (x + zI n)) L = L2) (hdg : decode b pc = .ok (.iinc i n, 3)) (k : G own b nL ret E (pc + 3) L2 rest M) : G own b nL ret E pc L rest M := by
  intro p l e s m args below meth c D cI cZ cS ad A C CX H locs ls hP hD hS hl
  subst hL
  obtain ⟨j, hj⟩ := List.getElem?_of_mem (List.mem_map.mpr ⟨(i, .int x), lget_mem hv, rfl⟩ : (i, Value.int x) ∈ renL ad L)
  exact lv_iinc C.1 C.2.1 hdg hl hj rfl hn rfl (fun ls hl => k p l e s m args below meth c D cI cZ cS ad A C CX H locs ls hP hD hS (lst1_has hl))
theorem g_iadd {x y : Int32} (hdg : decode b pc = .ok (.iadd, 1)) (k : G own b nL ret E (pc + 1) L (.int (x + y) :: rest) M) : G own b nL ret E pc L (.int y :: .int x :: rest) M := by
  intro p l e s m args below meth c D cI cZ cS ad A C CX H locs ls hP hD hS hl
  exact lv_iadd C.1 C.2.1 hdg (k p l e s m args below meth c D cI cZ cS ad A C CX H locs ls hP hD hS hl)
theorem g_isub {x y : Int32} (hdg : decode b pc = .ok (.isub, 1)) (k : G own b nL ret E (pc + 1) L (.int (x - y) :: rest) M) : G own b nL ret E pc L (.int y :: .int x :: rest) M := by
  intro p l e s m args below meth c D cI cZ cS ad A C CX H locs ls hP hD hS hl
  exact lv_isub C.1 C.2.1 hdg (k p l e s m args below meth c D cI cZ cS ad A C CX H locs ls hP hD hS hl)
theorem g_imul {x y : Int32} (hdg : decode b pc = .ok (.imul, 1)) (k : G own b nL ret E (pc + 1) L (.int (x * y) :: rest) M) : G own b nL ret E pc L (.int y :: .int x :: rest) M := by
  intro p l e s m args below meth c D cI cZ cS ad A C CX H locs ls hP hD hS hl
  exact lv_imul C.1 C.2.1 hdg (k p l e s m args below meth c D cI cZ cS ad A C CX H locs ls hP hD hS hl)
theorem g_iand {x y : Int32} (hdg : decode b pc = .ok (.iand, 1)) (k : G own b nL ret E (pc + 1) L (.int (x &&& y) :: rest) M) : G own b nL ret E pc L (.int y :: .int x :: rest) M := by
  intro p l e s m args below meth c D cI cZ cS ad A C CX H locs ls hP hD hS hl
  exact lv_iand C.1 C.2.1 hdg (k p l e s m args below meth c D cI cZ cS ad A C CX H locs ls hP hD hS hl)
theorem g_ior {x y : Int32} (hdg : decode b pc = .ok (.ior, 1)) (k : G own b nL ret E (pc + 1) L (.int (x ||| y) :: rest) M) : G own b nL ret E pc L (.int y :: .int x :: rest) M := by
  intro p l e s m args below meth c D cI cZ cS ad A C CX H locs ls hP hD hS hl
  exact lv_ior C.1 C.2.1 hdg (k p l e s m args below meth c D cI cZ cS ad A C CX H locs ls hP hD hS hl)
theorem g_ixor {x y : Int32} (hdg : decode b pc = .ok (.ixor, 1)) (k : G own b nL ret E (pc + 1) L (.int (x ^^^ y) :: rest) M) : G own b nL ret E pc L (.int y :: .int x :: rest) M := by
  intro p l e s m args below meth c D cI cZ cS ad A C CX H locs ls hP hD hS hl
  exact lv_ixor C.1 C.2.1 hdg (k p l e s m args below meth c D cI cZ cS ad A C CX H locs ls hP hD hS hl)
theorem g_ishl {x y : Int32} (hdg : decode b pc = .ok (.ishl, 1)) (k : G own b nL ret E (pc + 1) L (.int (x <<< (y &&& 31)) :: rest) M) : G own b nL ret E pc L (.int y :: .int x :: rest) M := by
  intro p l e s m args below meth c D cI cZ cS ad A C CX H locs ls hP hD hS hl
  exact lv_ishl C.1 C.2.1 hdg (k p l e s m args below meth c D cI cZ cS ad A C CX H locs ls hP hD hS hl)
theorem g_ishr {x y : Int32} (hdg : decode b pc = .ok (.ishr, 1)) (k : G own b nL ret E (pc + 1) L (.int (x >>> (y &&& 31)) :: rest) M) : G own b nL ret E pc L (.int y :: .int x :: rest) M := by
  intro p l e s m args below meth c D cI cZ cS ad A C CX H locs ls hP hD hS hl
  exact lv_ishr C.1 C.2.1 hdg (k p l e s m args below meth c D cI cZ cS ad A C CX H locs ls hP hD hS hl)
theorem g_iushr {x y : Int32} (hdg : decode b pc = .ok (.iushr, 1)) (k : G own b nL ret E (pc + 1) L (.int ((x.toUInt32 >>> (y.toUInt32 &&& Int32.toUInt32 31)).toInt32) :: rest) M) : G own b nL ret E pc L (.int y :: .int x :: rest) M := by
  intro p l e s m args below meth c D cI cZ cS ad A C CX H locs ls hP hD hS hl
  exact lv_iushr C.1 C.2.1 hdg rfl (k p l e s m args below meth c D cI cZ cS ad A C CX H locs ls hP hD hS hl)
theorem g_idiv {x y : Int32} (hne : ¬ y = 0) (hdg : decode b pc = .ok (.idiv, 1)) (k : G own b nL ret E (pc + 1) L (.int (x / y) :: rest) M) : G own b nL ret E pc L (.int y :: .int x :: rest) M := by
  intro p l e s m args below meth c D cI cZ cS ad A C CX H locs ls hP hD hS hl
  exact lv_idiv C.1 C.2.1 hdg hne (k p l e s m args below meth c D cI cZ cS ad A C CX H locs ls hP hD hS hl)
theorem g_irem {x y : Int32} (hne : ¬ y = 0) (hdg : decode b pc = .ok (.irem, 1)) (k : G own b nL ret E (pc + 1) L (.int (x - x / y * y) :: rest) M) : G own b nL ret E pc L (.int y :: .int x :: rest) M := by
  intro p l e s m args below meth c D cI cZ cS ad A C CX H locs ls hP hD hS hl
  exact lv_irem C.1 C.2.1 hdg hne (k p l e s m args below meth c D cI cZ cS ad A C CX H locs ls hP hD hS hl)
theorem g_ladd {x y : Int64} (hdg : decode b pc = .ok (.ladd, 1)) (k : G own b nL ret E (pc + 1) L (.long (x + y) :: rest) M) : G own b nL ret E pc L (.long y :: .long x :: rest) M := by
  intro p l e s m args below meth c D cI cZ cS ad A C CX H locs ls hP hD hS hl
  exact lv_ladd C.1 C.2.1 hdg (k p l e s m args below meth c D cI cZ cS ad A C CX H locs ls hP hD hS hl)
theorem g_lmul {x y : Int64} (hdg : decode b pc = .ok (.lmul, 1)) (k : G own b nL ret E (pc + 1) L (.long (x * y) :: rest) M) : G own b nL ret E pc L (.long y :: .long x :: rest) M := by
  intro p l e s m args below meth c D cI cZ cS ad A C CX H locs ls hP hD hS hl
  exact lv_lmul C.1 C.2.1 hdg (k p l e s m args below meth c D cI cZ cS ad A C CX H locs ls hP hD hS hl)
theorem g_ldiv {x y : Int64} (hne : ¬ y = 0) (hdg : decode b pc = .ok (.ldiv, 1)) (k : G own b nL ret E (pc + 1) L (.long (x / y) :: rest) M) : G own b nL ret E pc L (.long y :: .long x :: rest) M := by
  intro p l e s m args below meth c D cI cZ cS ad A C CX H locs ls hP hD hS hl
  exact lv_ldiv C.1 C.2.1 hdg hne (k p l e s m args below meth c D cI cZ cS ad A C CX H locs ls hP hD hS hl)
theorem g_lrem {x y : Int64} (hne : ¬ y = 0) (hdg : decode b pc = .ok (.lrem, 1)) (k : G own b nL ret E (pc + 1) L (.long (x - x / y * y) :: rest) M) : G own b nL ret E pc L (.long y :: .long x :: rest) M := by
  intro p l e s m args below meth c D cI cZ cS ad A C CX H locs ls hP hD hS hl
  exact lv_lrem C.1 C.2.1 hdg hne (k p l e s m args below meth c D cI cZ cS ad A C CX H locs ls hP hD hS hl)
theorem g_lcmp {x y : Int64} (hdg : decode b pc = .ok (.lcmp, 1)) (k : G own b nL ret E (pc + 1) L (.int (lg_cmp x y) :: rest) M) : G own b nL ret E pc L (.long y :: .long x :: rest) M := by
  intro p l e s m args below meth c D cI cZ cS ad A C CX H locs ls hP hD hS hl
  exact W.lcmp C.1 C.2.1 hdg (k p l e s m args below meth c D cI cZ cS ad A C CX H locs ls hP hD hS hl)
theorem g_i2l {x : Int32} (hdg : decode b pc = .ok (.i2l, 1)) (k : G own b nL ret E (pc + 1) L (.long x.toInt64 :: rest) M) : G own b nL ret E pc L (.int x :: rest) M := by
  intro p l e s m args below meth c D cI cZ cS ad A C CX H locs ls hP hD hS hl
  exact lv_i2l C.1 C.2.1 hdg rfl (k p l e s m args below meth c D cI cZ cS ad A C CX H locs ls hP hD hS hl)
theorem g_l2i {x : Int64} (hdg : decode b pc = .ok (.l2i, 1)) (k : G own b nL ret E (pc + 1) L (.int x.toInt32 :: rest) M) : G own b nL ret E pc L (.long x :: rest) M := by
  intro p l e s m args below meth c D cI cZ cS ad A C CX H locs ls hP hD hS hl
  exact lv_l2i C.1 C.2.1 hdg rfl (k p l e s m args below meth c D cI cZ cS ad A C CX H locs ls hP hD hS hl)
theorem g_dup {v : Value} (hc : v.category = 1) (hdg : decode b pc = .ok (.dup, 1)) (k : G own b nL ret E (pc + 1) L (v :: v :: rest) M) : G own b nL ret E pc L (v :: rest) M := by
  intro p l e s m args below meth c D cI cZ cS ad A C CX H locs ls hP hD hS hl
  exact lv_dup C.1 C.2.1 hdg ((ren_cat ad v).trans hc) (k p l e s m args below meth c D cI cZ cS ad A C CX H locs ls hP hD hS hl)
theorem g_pop {v : Value} (hc : v.category = 1) (hdg : decode b pc = .ok (.pop, 1)) (k : G own b nL ret E (pc + 1) L rest M) : G own b nL ret E pc L (v :: rest) M := by
  intro p l e s m args below meth c D cI cZ cS ad A C CX H locs ls hP hD hS hl
  exact lv_pop C.1 C.2.1 hdg ((ren_cat ad v).trans hc) (k p l e s m args below meth c D cI cZ cS ad A C CX H locs ls hP hD hS hl)
theorem g_dup2 {v w : Value} (hv : v.category = 1) (hw : w.category = 1) (hdg : decode b pc = .ok (.dup2, 1)) (k : G own b nL ret E (pc + 1) L (v :: w :: v :: w :: rest) M) : G own b nL ret E pc L (v :: w :: rest) M := by
  intro p l e s m args below meth c D cI cZ cS ad A C CX H locs ls hP hD hS hl
  exact lv_dup2_11 C.1 C.2.1 hdg ((ren_cat ad v).trans hv) ((ren_cat ad w).trans hw) (k p l e s m args below meth c D cI cZ cS ad A C CX H locs ls hP hD hS hl)
theorem g_if_eq {x : Int32} {off : Int} {tgt : Nat} (hdg : decode b pc = .ok (.ifCond .eq off, 3)) (ht : (pc : Int) + off = (tgt : Int)) (kt : x = 0 → G own b nL ret E tgt L rest M) (kf : ¬ x = 0 → G own b nL ret E (pc + 3) L rest M) : G own b nL ret E pc L (.int x :: rest) M := by
  intro p l e s m args below meth c D cI cZ cS ad A C CX H locs ls hP hD hS hl
  exact lv_if_eq C.1 C.2.1 hdg ht (fun q => kt q p l e s m args below meth c D cI cZ cS ad A C CX H locs ls hP hD hS hl) (fun q => kf q p l e s m args below meth c D cI cZ cS ad A C CX H locs ls hP hD hS hl)
theorem g_icmp_eq {x y : Int32} {off : Int} {tgt : Nat} (hdg : decode b pc = .ok (.if_icmp .eq off, 3)) (ht : (pc : Int) + off = (tgt : Int)) (kt : x = y → G own b nL ret E tgt L rest M) (kf : ¬ x = y → G own b nL ret E (pc + 3) L rest M) : G own b nL ret E pc L (.int y :: .int x :: rest) M := by
  intro p l e s m args below meth c D cI cZ cS ad A C CX H locs ls hP hD hS hl
  exact lv_icmp_eq C.1 C.2.1 hdg ht (fun q => kt q p l e s m args below meth c D cI cZ cS ad A C CX H locs ls hP hD hS hl) (fun q => kf q p l e s m args below meth c D cI cZ cS ad A C CX H locs ls hP hD hS hl)
theorem g_if_ne {x : Int32} {off : Int} {tgt : Nat} (hdg : decode b pc = .ok (.ifCond .ne off, 3)) (ht : (pc : Int) + off = (tgt : Int)) (kt : ¬ x = 0 → G own b nL ret E tgt L rest M) (kf : x = 0 → G own b nL ret E (pc + 3) L rest M) : G own b nL ret E pc L (.int x :: rest) M := by
  intro p l e s m args below meth c D cI cZ cS ad A C CX H locs ls hP hD hS hl
  exact lv_if_ne C.1 C.2.1 hdg ht (fun q => kt q p l e s m args below meth c D cI cZ cS ad A C CX H locs ls hP hD hS hl) (fun q => kf q p l e s m args below meth c D cI cZ cS ad A C CX H locs ls hP hD hS hl)
theorem g_icmp_ne {x y : Int32} {off : Int} {tgt : Nat} (hdg : decode b pc = .ok (.if_icmp .ne off, 3)) (ht : (pc : Int) + off = (tgt : Int)) (kt : ¬ x = y → G own b nL ret E tgt L rest M) (kf : x = y → G own b nL ret E (pc + 3) L rest M) : G own b nL ret E pc L (.int y :: .int x :: rest) M := by
  intro p l e s m args below meth c D cI cZ cS ad A C CX H locs ls hP hD hS hl
  exact lv_icmp_ne C.1 C.2.1 hdg ht (fun q => kt q p l e s m args below meth c D cI cZ cS ad A C CX H locs ls hP hD hS hl) (fun q => kf q p l e s m args below meth c D cI cZ cS ad A C CX H locs ls hP hD hS hl)
theorem g_if_lt {x : Int32} {off : Int} {tgt : Nat} (hdg : decode b pc = .ok (.ifCond .lt off, 3)) (ht : (pc : Int) + off = (tgt : Int)) (kt : x < 0 → G own b nL ret E tgt L rest M) (kf : ¬ x < 0 → G own b nL ret E (pc + 3) L rest M) : G own b nL ret E pc L (.int x :: rest) M := by
  intro p l e s m args below meth c D cI cZ cS ad A C CX H locs ls hP hD hS hl
  exact lv_if_lt C.1 C.2.1 hdg ht (fun q => kt q p l e s m args below meth c D cI cZ cS ad A C CX H locs ls hP hD hS hl) (fun q => kf q p l e s m args below meth c D cI cZ cS ad A C CX H locs ls hP hD hS hl)
theorem g_icmp_lt {x y : Int32} {off : Int} {tgt : Nat} (hdg : decode b pc = .ok (.if_icmp .lt off, 3)) (ht : (pc : Int) + off = (tgt : Int)) (kt : x < y → G own b nL ret E tgt L rest M) (kf : ¬ x < y → G own b nL ret E (pc + 3) L rest M) : G own b nL ret E pc L (.int y :: .int x :: rest) M := by
  intro p l e s m args below meth c D cI cZ cS ad A C CX H locs ls hP hD hS hl
  exact lv_icmp_lt C.1 C.2.1 hdg ht (fun q => kt q p l e s m args below meth c D cI cZ cS ad A C CX H locs ls hP hD hS hl) (fun q => kf q p l e s m args below meth c D cI cZ cS ad A C CX H locs ls hP hD hS hl)
theorem g_if_ge {x : Int32} {off : Int} {tgt : Nat} (hdg : decode b pc = .ok (.ifCond .ge off, 3)) (ht : (pc : Int) + off = (tgt : Int)) (kt : 0 ≤ x → G own b nL ret E tgt L rest M) (kf : ¬ 0 ≤ x → G own b nL ret E (pc + 3) L rest M) : G own b nL ret E pc L (.int x :: rest) M := by
  intro p l e s m args below meth c D cI cZ cS ad A C CX H locs ls hP hD hS hl
  exact lv_if_ge C.1 C.2.1 hdg ht (fun q => kt q p l e s m args below meth c D cI cZ cS ad A C CX H locs ls hP hD hS hl) (fun q => kf q p l e s m args below meth c D cI cZ cS ad A C CX H locs ls hP hD hS hl)
theorem g_icmp_ge {x y : Int32} {off : Int} {tgt : Nat} (hdg : decode b pc = .ok (.if_icmp .ge off, 3)) (ht : (pc : Int) + off = (tgt : Int)) (kt : y ≤ x → G own b nL ret E tgt L rest M) (kf : ¬ y ≤ x → G own b nL ret E (pc + 3) L rest M) : G own b nL ret E pc L (.int y :: .int x :: rest) M := by
  intro p l e s m args below meth c D cI cZ cS ad A C CX H locs ls hP hD hS hl
  exact lv_icmp_ge C.1 C.2.1 hdg ht (fun q => kt q p l e s m args below meth c D cI cZ cS ad A C CX H locs ls hP hD hS hl) (fun q => kf q p l e s m args below meth c D cI cZ cS ad A C CX H locs ls hP hD hS hl)
theorem g_if_gt {x : Int32} {off : Int} {tgt : Nat} (hdg : decode b pc = .ok (.ifCond .gt off, 3)) (ht : (pc : Int) + off = (tgt : Int)) (kt : 0 < x → G own b nL ret E tgt L rest M) (kf : ¬ 0 < x → G own b nL ret E (pc + 3) L rest M) : G own b nL ret E pc L (.int x :: rest) M := by
  intro p l e s m args below meth c D cI cZ cS ad A C CX H locs ls hP hD hS hl
  exact lv_if_gt C.1 C.2.1 hdg ht (fun q => kt q p l e s m args below meth c D cI cZ cS ad A C CX H locs ls hP hD hS hl) (fun q => kf q p l e s m args below meth c D cI cZ cS ad A C CX H locs ls hP hD hS hl)
theorem g_icmp_gt {x y : Int32} {off : Int} {tgt : Nat} (hdg : decode b pc = .ok (.if_icmp .gt off, 3)) (ht : (pc : Int) + off = (tgt : Int)) (kt : y < x → G own b nL ret E tgt L rest M) (kf : ¬ y < x → G own b nL ret E (pc + 3) L rest M) : G own b nL ret E pc L (.int y :: .int x :: rest) M := by
  intro p l e s m args below meth c D cI cZ cS ad A C CX H locs ls hP hD hS hl
  exact lv_icmp_gt C.1 C.2.1 hdg ht (fun q => kt q p l e s m args below meth c D cI cZ cS ad A C CX H locs ls hP hD hS hl) (fun q => kf q p l e s m args below meth c D cI cZ cS ad A C CX H locs ls hP hD hS hl)
theorem g_if_le {x : Int32} {off : Int} {tgt : Nat} (hdg : decode b pc = .ok (.ifCond .le off, 3)) (ht : (pc : Int) + off = (tgt : Int)) (kt : x ≤ 0 → G own b nL ret E tgt L rest M) (kf : ¬ x ≤ 0 → G own b nL ret E (pc + 3) L rest M) : G own b nL ret E pc L (.int x :: rest) M := by
  intro p l e s m args below meth c D cI cZ cS ad A C CX H locs ls hP hD hS hl
  exact lv_if_le C.1 C.2.1 hdg ht (fun q => kt q p l e s m args below meth c D cI cZ cS ad A C CX H locs ls hP hD hS hl) (fun q => kf q p l e s m args below meth c D cI cZ cS ad A C CX H locs ls hP hD hS hl)
theorem g_icmp_le {x y : Int32} {off : Int} {tgt : Nat} (hdg : decode b pc = .ok (.if_icmp .le off, 3)) (ht : (pc : Int) + off = (tgt : Int)) (kt : x ≤ y → G own b nL ret E tgt L rest M) (kf : ¬ x ≤ y → G own b nL ret E (pc + 3) L rest M) : G own b nL ret E pc L (.int y :: .int x :: rest) M := by
  intro p l e s m args below meth c D cI cZ cS ad A C CX H locs ls hP hD hS hl
  exact lv_icmp_le C.1 C.2.1 hdg ht (fun q => kt q p l e s m args below meth c D cI cZ cS ad A C CX H locs ls hP hD hS hl) (fun q => kf q p l e s m args below meth c D cI cZ cS ad A C CX H locs ls hP hD hS hl)
theorem g_goto {off : Int} {tgt : Nat} (hdg : decode b pc = .ok (.goto off, 3)) (ht : (pc : Int) + off = (tgt : Int)) (k : G own b nL ret E tgt L rest M) : G own b nL ret E pc L rest M := by
  intro p l e s m args below meth c D cI cZ cS ad A C CX H locs ls hP hD hS hl
  exact lv_goto C.1 C.2.1 hdg ht (k p l e s m args below meth c D cI cZ cS ad A C CX H locs ls hP hD hS hl)
theorem g_tableIn {dflt lo hi : Int} {offs : Array Int} {len : Nat} {x : Int32} {off : Int} {tgt : Nat} (hdg : decode b pc = .ok (.tableswitch dflt lo hi offs, len)) (h1 : ¬ x.toInt < lo) (h2 : ¬ hi < x.toInt) (ho : offs[(x.toInt - lo).toNat]? = some off) (ht : (pc : Int) + off = (tgt : Int)) (k : G own b nL ret E tgt L rest M) : G own b nL ret E pc L (.int x :: rest) M := by
  intro p l e s m args below meth c D cI cZ cS ad A C CX H locs ls hP hD hS hl
  exact lv_tableIn C.1 C.2.1 hdg h1 h2 ho ht (k p l e s m args below meth c D cI cZ cS ad A C CX H locs ls hP hD hS hl)
theorem g_tableOut {dflt lo hi : Int} {offs : Array Int} {len : Nat} {x : Int32} {tgt : Nat} (hdg : decode b pc = .ok (.tableswitch dflt lo hi offs, len)) (ho : x.toInt < lo ∨ hi < x.toInt) (ht : (pc : Int) + dflt = (tgt : Int)) (k : G own b nL ret E tgt L rest M) : G own b nL ret E pc L (.int x :: rest) M := by
  intro p l e s m args below meth c D cI cZ cS ad A C CX H locs ls hP hD hS hl
  exact lv_tableOut C.1 C.2.1 hdg ho ht (k p l e s m args below meth c D cI cZ cS ad A C CX H locs ls hP hD hS hl)
theorem g_ldc2 {index : Nat} {v : Int64} (hw : Cond.constantLong own index v ∈ tb) (hdg : decode b pc = .ok (.ldc2_w index, 3)) (k : G own b nL ret E (pc + 3) L (.long v :: rest) M) : G own b nL ret E pc L rest M := by
  intro p l e s m args below meth c D cI cZ cS ad A C CX H locs ls hP hD hS hl
  exact lv_ldc2 C.1 C.2.1 C.2.2.2.2.1 (C.2.2.2.2.2.1 _ hw) hdg (k p l e s m args below meth c D cI cZ cS ad A C CX H locs ls hP hD hS hl)
theorem g_ldcw {index : Nat} {v : Int32} (hw : Cond.constant own index v ∈ tb) (hdg : decode b pc = .ok (.ldc_w index, 3)) (k : G own b nL ret E (pc + 3) L (.int v :: rest) M) : G own b nL ret E pc L rest M := by
  intro p l e s m args below meth c D cI cZ cS ad A C CX H locs ls hP hD hS hl
  exact lv_ldcw C.1 C.2.1 C.2.2.2.2.1 (C.2.2.2.2.2.1 _ hw) hdg (k p l e s m args below meth c D cI cZ cS ad A C CX H locs ls hP hD hS hl)
theorem g_ireturn {v : Int32} (hr : ret = some .int) (hdg : decode b pc = .ok (.ireturn, 1)) (hq : Q (some (.int v)) M) : G own b nL ret (gE h Q) pc L [.int v] M := by
  intro p l e s m args below meth c D cI cZ cS ad A C CX H locs ls hP hD hS hl
  exact W.iret C.1 C.2.1 (C.2.2.1.trans hr) (fun t ht hW => ⟨⟨some (.int v), M, rfl, hq, by rw [ht]; exact hP, hD⟩, hS.F ht⟩) hS.2.2 hdg C.2.2.2.2.2.2.1
theorem g_zreturn {v : Int32} (hr : ret = some .boolean) (hv : narrow .boolean (.int v) = .int v) (hdg : decode b pc = .ok (.ireturn, 1)) (hq : Q (some (.int v)) M) : G own b nL ret (gE h Q) pc L [.int v] M := by
  intro p l e s m args below meth c D cI cZ cS ad A C CX H locs ls hP hD hS hl
  exact W.zret C.1 C.2.1 (C.2.2.1.trans hr) hv (fun t ht hW => ⟨⟨some (.int v), M, rfl, hq, by rw [ht]; exact hP, hD⟩, hS.F ht⟩) hS.2.2 hdg C.2.2.2.2.2.2.1
theorem g_lreturn {v : Int64} (hr : ret = some .long) (hdg : decode b pc = .ok (.lreturn, 1)) (hq : Q (some (.long v)) M) : G own b nL ret (gE h Q) pc L [.long v] M := by
  intro p l e s m args below meth c D cI cZ cS ad A C CX H locs ls hP hD hS hl
  exact W.lret C.1 C.2.1 (C.2.2.1.trans hr) (fun t ht hW => ⟨⟨some (.long v), M, rfl, hq, by rw [ht]; exact hP, hD⟩, hS.F ht⟩) hS.2.2 hdg C.2.2.2.2.2.2.1
theorem g_areturn {v : Nat} {rt : FieldType} (hr : ret = some rt) (hrt : (∃ n, rt = .object n) ∨ ∃ t, rt = .array t) (hdg : decode b pc = .ok (.areturn, 1)) (hq : Q (some (.ref v)) M) : G own b nL ret (gE h Q) pc L [.ref v] M := by
  intro p l e s m args below meth c D cI cZ cS ad A C CX H locs ls hP hD hS hl
  exact W.aret C.1 C.2.1 (C.2.2.1.trans hr) hrt (Or.inr ⟨_, rfl⟩) (fun t ht hW => ⟨⟨some (.ref v), M, rfl, hq, by rw [ht]; exact hP, hD⟩, hS.F ht⟩) hS.2.2 hdg C.2.2.2.2.2.2.1
theorem g_return (hr : ret = none) (hdg : decode b pc = .ok (.return_, 1)) (hq : Q none M) : G own b nL ret (gE h Q) pc L [] M := by
  intro p l e s m args below meth c D cI cZ cS ad A C CX H locs ls hP hD hS hl
  exact W.vret C.1 C.2.1 (C.2.2.1.trans hr) (fun t ht hW => ⟨⟨none, M, rfl, hq, by rw [ht]; exact hP, hD⟩, hS.F ht⟩) hS.2.2 hdg C.2.2.2.2.2.2.1
theorem g_iald {k n : Nat} {i : Int32} (hk : k < 42) (hs : shK k = 6) (hN : shN k = n) (hin : vp_in i n) (hdg : decode b pc = .ok (.iaload, 1)) (kk : G own b nL ret E (pc + 1) L (.int (M k i.toNatClampNeg) :: rest) M) : G own b nL ret E pc L (.int i :: .ref k :: rest) M := by
  intro p l e s m args below meth c D cI cZ cS ad A C CX H locs ls hP hD hS hl
  subst hN
  have he := Wd_get cI cZ cS ad M hk
  rw [ent_int cI cZ cS ad M hs] at he
  exact va_iald C.1 C.2.1 C.2.2.2.2.2.2.2.1 hP k 0 he rfl hin hdg (kk p l e s m args below meth c D cI cZ cS ad A C CX H locs ls hP hD hS hl)
theorem g_zald {k n : Nat} {i : Int32} (hk : k < 42) (hs : shK k = 7) (hN : shN k = n) (hin : vp_in i n) (hdg : decode b pc = .ok (.baload, 1)) (kk : G own b nL ret E (pc + 1) L (.int (M k i.toNatClampNeg) :: rest) M) : G own b nL ret E pc L (.int i :: .ref k :: rest) M := by
  intro p l e s m args below meth c D cI cZ cS ad A C CX H locs ls hP hD hS hl
  subst hN
  have he := Wd_get cI cZ cS ad M hk
  rw [ent_bool cI cZ cS ad M hs] at he
  exact va_zald C.1 C.2.1 C.2.2.2.2.2.2.2.1 hP k 1 he rfl hin hdg (kk p l e s m args below meth c D cI cZ cS ad A C CX H locs ls hP hD hS hl)
theorem g_aald {k n r : Nat} {i : Int32} (hk : k < 42) (hs : shK k = 8) (hN : shN k = n) (hin : vp_in i n) (hr : rf k i.toNatClampNeg = some r) (hdg : decode b pc = .ok (.aaload, 1)) (kk : G own b nL ret E (pc + 1) L (.ref r :: rest) M) : G own b nL ret E pc L (.int i :: .ref k :: rest) M := by
  intro p l e s m args below meth c D cI cZ cS ad A C CX H locs ls hP hD hS hl
  subst hN
  have he := Wd_get cI cZ cS ad M hk
  rw [ent_ref cI cZ cS ad M hs] at he
  refine va_aldq C.1 C.2.1 C.2.2.2.2.2.2.2.1 hP k 2 he rfl hin hdg ?_
  rw [hr]
  exact (kk p l e s m args below meth c D cI cZ cS ad A C CX H locs ls hP hD hS hl)
theorem g_iast {k n : Nat} {i x : Int32} (hk : k < 42) (hs : shK k = 6) (hN : shN k = n) (hin : vp_in i n) (hdg : decode b pc = .ok (.iastore, 1)) (kk : G own b nL ret E (pc + 1) L rest (mset M k i.toNatClampNeg x)) : G own b nL ret E pc L (.int x :: .int i :: .ref k :: rest) M := by
  intro p l e_ s m args below meth c D cI cZ cS ad A C CX H locs ls hP hD hS hl
  subst hN
  have he := Wd_get cI cZ cS ad M hk
  rw [ent_int cI cZ cS ad M hs] at he
  refine va_iast C.1 C.2.1 C.2.2.2.2.2.2.2.1 hP hD hS k 0 he rfl hin hdg (fun H1 locs1 hP1 hD1 hS1 => ?_)
  have e : (Wd cI cZ cS ad M).set k (ad k, .inl (cI, shN k, .inl (upd (M k) i.toNatClampNeg x))) = Wd cI cZ cS ad (mset M k i.toNatClampNeg x) := Wd_set _ _ _ _ _ _ (by rw [ent_int cI cZ cS ad _ hs, mset_row])
  rw [e] at hP1 hD1
  exact kk p l e_ s m args below meth c D cI cZ cS ad A C CX H1 locs1 ls hP1 hD1 hS1 hl
theorem g_zast {k n : Nat} {i x : Int32} (hk : k < 42) (hs : shK k = 7) (hN : shN k = n) (hin : vp_in i n) (hx : vp_nar .boolean x = x) (hdg : decode b pc = .ok (.bastore, 1)) (kk : G own b nL ret E (pc + 1) L rest (mset M k i.toNatClampNeg x)) : G own b nL ret E pc L (.int x :: .int i :: .ref k :: rest) M := by
  intro p l e_ s m args below meth c D cI cZ cS ad A C CX H locs ls hP hD hS hl
  subst hN
  have he := Wd_get cI cZ cS ad M hk
  rw [ent_bool cI cZ cS ad M hs] at he
  refine va_zast C.1 C.2.1 C.2.2.2.2.2.2.2.1 hP hD hS k 1 he rfl hin hdg (fun H1 locs1 hP1 hD1 hS1 => ?_)
  rw [hx] at hP1 hD1
  have e : (Wd cI cZ cS ad M).set k (ad k, .inl (cZ, shN k, .inl (upd (M k) i.toNatClampNeg x))) = Wd cI cZ cS ad (mset M k i.toNatClampNeg x) := Wd_set _ _ _ _ _ _ (by rw [ent_bool cI cZ cS ad _ hs, mset_row])
  rw [e] at hP1 hD1
  exact kk p l e_ s m args below meth c D cI cZ cS ad A C CX H1 locs1 ls hP1 hD1 hS1 hl
theorem g_gets {index : Nat} (hw : Cond.fieldLink own index "SilentAsking" "INVERSE" "[I" ∈ tb) (hdg : decode b pc = .ok (.getstatic index, 3)) (k : G own b nL ret E (pc + 3) L (.ref 42 :: rest) M) : G own b nL ret E pc L rest M := by
  intro p l e s m args below meth c D cI cZ cS ad A C CX H locs ls hP hD hS hl
  exact va_gets C.1 C.2.1 C.2.2.2.2.2.2.2.2.1.1 hS C.2.2.2.2.1 (C.2.2.2.2.2.1 _ hw) (fun _ q => q) hdg (k p l e s m args below meth c D cI cZ cS ad A C CX H locs ls hP hD hS hl)
theorem g_ialdT {i : Int32} {v : Int32} (hin : vp_in i 9) (hv : invL.getD i.toNatClampNeg 0 = v) (hdg : decode b pc = .ok (.iaload, 1)) (k : G own b nL ret E (pc + 1) L (.int v :: rest) M) : G own b nL ret E pc L (.int i :: .ref 42 :: rest) M := by
  intro p l e s m args below meth c D cI cZ cS ad A C CX H locs ls hP hD hS hl
  exact va_ti C.1 C.2.1 C.2.2.2.2.2.2.2.2.1.2.1 hS hin (v := .int v) (by rw [hv]) hdg (k p l e s m args below meth c D cI cZ cS ad A C CX H locs ls hP hD hS hl)
theorem g_alenT (hdg : decode b pc = .ok (.arraylength, 1)) (k : G own b nL ret E (pc + 1) L (.int (zI 9) :: rest) M) : G own b nL ret E pc L (.ref 42 :: rest) M := by
  intro p l e s m args below meth c D cI cZ cS ad A C CX H locs ls hP hD hS hl
  exact va_tlen C.1 C.2.1 C.2.2.2.2.2.2.2.2.1.2.1 hS rfl hdg (k p l e s m args below meth c D cI cZ cS ad A C CX H locs ls hP hD hS hl)
theorem g_get {index k ci j N : Nat} {C : String} {T : u_T} {v : Value} (hk : k < 42) (hs : shK k = ci) (hc : ci < 6) (hv : fvA M k j = v) (hcl : vwCl[ci]? = some (C, T, N)) (hin : ∀ w ∈ u_ws C T N, w ∈ tb) (hj : j < N) (hN : shN k = N) (hw : Cond.fieldLink own index (T j).1 (T j).2.1 (T j).2.2.1 ∈ tb) (hdg : decode b pc = .ok (.getfield index, 3)) (kk : G own b nL ret E (pc + 3) L (v :: rest) M) : G own b nL ret E pc L (.ref k :: rest) M := by
  intro p l e s m args below meth c D cI cZ cS ad A C9 CX H locs ls hP hD hS hl
  subst hv
  have he := Wd_get cI cZ cS ad M hk
  rw [ent_obj cI cZ cS ad M hs hc] at he
  exact va_get C9.1 C9.2.1 C9.2.2.2.2.2.1 hin C9.2.2.2.2.1 C9.2.2.2.2.2.2.2.1 hP k he hcl j hj (C9.2.2.2.2.2.1 _ hw) (fun _ q => q) (flds_get ad M (by rw [hN]; exact hj)) hdg (kk p l e s m args below meth c D cI cZ cS ad A C9 CX H locs ls hP hD hS hl)
theorem g_put {index k ci j N : Nat} {C : String} {T : u_T} {v : Int32} (ty0 : Nat → FieldType) (hk : k < 42) (hs : shK k = ci) (hc : ci < 6) (hr : rf k j = none) (hcl : vwCl[ci]? = some (C, T, N)) (hin : ∀ w ∈ u_ws C T N, w ∈ tb) (hty : ∀ k, k < N → parseFieldDescriptor (T k).2.2.1 = some (ty0 k)) (hnm : ∀ a, a < N → ∀ b, b < N → a ≠ b → (T a).2.1 ≠ (T b).2.1) (hfin : (T j).2.2.2 = false) {ty : FieldType} (hd : parseFieldDescriptor (T j).2.2.1 = some ty) (hn : narrow ty (.int v) = .int v) (hfit : fits ty (.int v) = true) (hj : j < N) (hN : shN k = N) (hw : Cond.fieldLink own index (T j).1 (T j).2.1 (T j).2.2.1 ∈ tb) (hdg : decode b pc = .ok (.putfield index, 3)) (kk : G own b nL ret E (pc + 3) L rest (mset M k j v)) : G own b nL ret E pc L (.int v :: .ref k :: rest) M := by
  intro p l e_ s m args below meth c D cI cZ cS ad A C9 CX H locs ls hP hD hS hl
  have he := Wd_get cI cZ cS ad M hk
  rw [ent_obj cI cZ cS ad M hs hc] at he
  refine va_put (v := .int v) C9.1 C9.2.1 C9.2.2.2.2.2.1 hin ty0 hty hnm C9.2.2.2.2.1 C9.2.2.2.2.2.2.2.1 hP hD hS k he hcl j hj (C9.2.2.2.2.2.1 _ hw) (fun _ q => q) hfin hd hn hfit (by simp [flds]; omega) hdg (fun H1 locs1 hP1 hD1 hS1 => ?_)
  have e : (Wd cI cZ cS ad M).set k (ad k, .inr (ci, (flds ad M k).set j (.int v))) = Wd cI cZ cS ad (mset M k j v) := Wd_set _ _ _ _ _ _ (by rw [ent_obj cI cZ cS ad _ hs hc, flds_set _ _ _ hr])
  rw [e] at hP1 hD1
  exact kk p l e_ s m args below meth c D cI cZ cS ad A C9 CX H1 locs1 ls hP1 hD1 hS1 hl
theorem g_getN {index k ci j N : Nat} {C : String} {T : u_T} {host : String} {v : Value} (hk : k < 42) (hs : shK k = ci) (hc : ci < 6) (hv : fvA M k j = v) (hcl : vwCl[ci]? = some (C, T, N)) (hin : ∀ w ∈ u_ws C T N, w ∈ tb) (hj : j < N) (hN : shN k = N) (hw : Cond.fieldLinkNest own index (T j).1 (T j).2.1 (T j).2.2.1 host ∈ nwl) (hdg : decode b pc = .ok (.getfield index, 3)) (kk : G own b nL ret E (pc + 3) L (v :: rest) M) : G own b nL ret E pc L (.ref k :: rest) M := by
  intro p l e s m args below meth c D cI cZ cS ad A C9 CX H locs ls hP hD hS hl
  subst hv
  have he := Wd_get cI cZ cS ad M hk
  rw [ent_obj cI cZ cS ad M hs hc] at he
  exact va_getN C9.1 C9.2.1 C9.2.2.2.2.2.1 hin C9.2.2.2.2.1 C9.2.2.2.2.2.2.2.1 hP k he hcl j hj (va_Nw.use rfl (C9.2.2.2.2.2.2.2.2.1.2.2 _ hw)) (fun _ q => q) (flds_get ad M (by rw [hN]; exact hj)) hdg (kk p l e s m args below meth c D cI cZ cS ad A C9 CX H locs ls hP hD hS hl)
theorem g_putN {index k ci j N : Nat} {C : String} {T : u_T} {host : String} {v : Int32} (ty0 : Nat → FieldType) (hk : k < 42) (hs : shK k = ci) (hc : ci < 6) (hr : rf k j = none) (hcl : vwCl[ci]? = some (C, T, N)) (hin : ∀ w ∈ u_ws C T N, w ∈ tb) (hty : ∀ k, k < N → parseFieldDescriptor (T k).2.2.1 = some (ty0 k)) (hnm : ∀ a, a < N → ∀ b, b < N → a ≠ b → (T a).2.1 ≠ (T b).2.1) (hfin : (T j).2.2.2 = false) {ty : FieldType} (hd : parseFieldDescriptor (T j).2.2.1 = some ty) (hn : narrow ty (.int v) = .int v) (hfit : fits ty (.int v) = true) (hj : j < N) (hN : shN k = N) (hw : Cond.fieldLinkNest own index (T j).1 (T j).2.1 (T j).2.2.1 host ∈ nwl) (hdg : decode b pc = .ok (.putfield index, 3)) (kk : G own b nL ret E (pc + 3) L rest (mset M k j v)) : G own b nL ret E pc L (.int v :: .ref k :: rest) M := by
  intro p l e_ s m args below meth c D cI cZ cS ad A C9 CX H locs ls hP hD hS hl
  have he := Wd_get cI cZ cS ad M hk
  rw [ent_obj cI cZ cS ad M hs hc] at he
  refine va_putN (v := .int v) C9.1 C9.2.1 C9.2.2.2.2.2.1 hin ty0 hty hnm C9.2.2.2.2.1 C9.2.2.2.2.2.2.2.1 hP hD hS k he hcl j hj (va_Nw.use rfl (C9.2.2.2.2.2.2.2.2.1.2.2 _ hw)) (fun _ q => q) hfin hd hn hfit (by simp [flds]; omega) hdg (fun H1 locs1 hP1 hD1 hS1 => ?_)
  have e : (Wd cI cZ cS ad M).set k (ad k, .inr (ci, (flds ad M k).set j (.int v))) = Wd cI cZ cS ad (mset M k j v) := Wd_set _ _ _ _ _ _ (by rw [ent_obj cI cZ cS ad _ hs hc, flds_set _ _ _ hr])
  rw [e] at hP1 hD1
  exact kk p l e_ s m args below meth c D cI cZ cS ad A C9 CX H1 locs1 ls hP1 hD1 hS1 hl
end GS
