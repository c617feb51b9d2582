/-! calls: the callee's contract (Ev) carries the whole world -/
theorem good_tbl {w : Cond} (h : w ∈ tb) : w ∈ tb ∧ ((w.onTables && w.keeps) = true ∨ ∃ ty, w = .arrayClass ty) := ⟨h, good_of_word (List.mem_filter.mp h).2⟩
theorem good_code {y : MethodName} {b : ByteArray} {n : Nat} {ret : Option FieldType} (h : Cond.code y b n ret ∈ tb) : GoodIn tb (.code y b n ret :: tb) := by
  intro w hw
  rcases List.mem_cons.mp hw with rfl | hw
  · exact good_tbl h
  · exact good_tbl hw
theorem pc_blind {av : List Value} {D : va_G} {cI cZ cS : ClassId} {ad : Nat → Nat} {M : Mem} {sz : Nat} : FrameBlind (va_Pc av (fun U => U.heap.size = sz ∧ va_P D vwCl (Wd cI cZ cS ad M) U.heap ∧ va_K D vwCl (ty3 cI cZ cS) U ∧ va_D (AA ad sz) (Wd cI cZ cS ad M) ∧ ST ad (AA ad sz) U)) := by
  intro a U g mk hq
  obtain ⟨q0, q1, q2, q3, q4, q5⟩ := hq
  exact ⟨q0, q1, q2, va_K.moved (u := U) (U := U.calling g mk a) (Vm.Alike.refl U.vm) q3, q4, ⟨va_Z.moved (u := U) (U := U.calling g mk a) (Vm.Alike.refl U.vm) q5.1, va_T.moved (u := U) (U := U.calling g mk a) (Vm.Alike.refl U.vm) q5.2.1, fun w hw => nwl_same (u := U) (U := U.calling g mk a) hw rfl (q5.2.2 w hw)⟩⟩
section GCALL
variable {own : String} {b : ByteArray} {nL : Nat} {ret : Option FieldType} {E : GE} {h : Nat} {Q : Option Value → Mem → Prop} {pc : Nat} {L : List (Nat × Value)} {rest : List Value} {M : Mem}
variable {p : Program} {l : Launch} {e : Env} {s : State} {m : MethodId} {args : Array Value} {below : List Frame} {meth : Method} {c : Code} {D : va_G} {cI cZ cS : ClassId} {ad : Nat → Nat} {A : Nat → Prop} {H : Heap} {locs : List Loc} {ls : Array Slot}
theorem g_pre {avs : List Value} (C : GC own b nL ret p s m args meth c D cI cZ cS ad A) (hP : va_P D vwCl (Wd cI cZ cS ad M) H) (hD : va_D A (Wd cI cZ cS ad M)) (hS : va_S A s.heap H locs) :
    PreS s H (va_Pc (avs.map (ren ad)) (fun U => U.heap.size = H.size ∧ va_P D vwCl (Wd cI cZ cS ad M) U.heap ∧ va_K D vwCl (ty3 cI cZ cS) U ∧ va_D (AA ad H.size) (Wd cI cZ cS ad M) ∧ ST ad (AA ad H.size) U)) (avs.map (ren ad)) := by
  refine ⟨pc_blind, fun U hU hW => ⟨rfl, by rw [hU], by rw [hU]; exact hP, va_K.moved hW.alike C.2.2.2.2.2.2.2.1, AA_self hD _, C.2.2.2.2.2.2.2.2.1.at hS hW hU (AA_in hD hS C.2.2.2.2.2.2.2.2.2)⟩⟩
theorem g_after {Q' : Option Value → Mem → Prop} {a : Array Value} {st : List Value} (C : GC own b nL ret p s m args meth c D cI cZ cS ad A) (hP : va_P D vwCl (Wd cI cZ cS ad M) H) (hD : va_D A (Wd cI cZ cS ad M)) (hS : va_S A s.heap H locs) (hl : lv_has ls nL (renL ad L))
    (CX : E.2.2.2.2 s args A) (hr : va_Run p l e E.1 s m args below meth c H locs E.2.1 E.2.2.1 0 0 (F0 m pc ls st) (rest.map (ren ad)) (Qst D cI cZ cS ad (AA ad H.size) Q' a) (AA ad H.size))
    (kk : ∀ (r : Option Value) (M' : Mem), Q' r M' → G own b nL ret E (pc + 3) L (r.toList ++ rest) M') : W p l e E.1 s m args below meth c H locs E.2.1 E.2.2.1 (E.2.2.2.1 below D cI cZ cS ad A args s) (F0 m pc ls st) := by
  intro T hT X
  obtain ⟨v, st₀, t, T', L1, h0, X', hL, e1, e2, ⟨⟨r, M', hv, hq, hP1, hD1⟩, hz, hk⟩, stp⟩ := hr T hT X
  have hv := Outcome.returned.inj hv
  subst hv
  rw [h0] at hz hk
  have hin := AA_in hD hS C.2.2.2.2.2.2.2.2.2
  have hS1 : va_S A s.heap T'.heap (locs ++ L1) := ⟨Nat.le_trans hS.1 (by rw [e1]; exact hz), fun q h1 h2 => by rw [e1, hk q (Nat.lt_of_lt_of_le h1 hS.1) (fun z => h2 (hin q z))]; exact hS.2.1 q h1 h2, fun q hq => by
      rcases List.mem_append.mp hq with h | h
      · exact hS.2.2 q h
      · exact hin _ (hL q h)⟩
  obtain ⟨t2, a1, b1⟩ := kk r M' hq p l e s m args below meth c D cI cZ cS ad A C CX T'.heap (locs ++ L1) ls (by rw [e1]; exact hP1) (hD1.weaken (fun _ q _ hx => hin q.1 hx)) hS1 hl T' rfl X'
  refine ⟨t2, stp t2 ?_, b1⟩
  have e : (r.toList ++ rest).map (ren ad) = (r.map (ren ad)).toList ++ rest.map (ren ad) := by cases r <;> simp
  rw [e] at a1
  exact a1
end GCALL
section GCALL2
variable {own : String} {b : ByteArray} {nL : Nat} {ret : Option FieldType} {E : GE} {h : Nat} {Q : Option Value → Mem → Prop} {pc : Nat} {L : List (Nat × Value)} {st rest : List Value} {M : Mem}
variable {y : MethodName} {b' : ByteArray} {nL' h' index n : Nat} {ret' : Option FieldType} {avs : List Value} {Q' : Option Value → Mem → Prop}
abbrev okRoom (h' : Nat) (E : GE) (nL' : Nat) : Prop := h' + 1 ≤ E.1.frames ∧ 8 + (nL' + 11) + 31 * h' ≤ E.1.locals ∧ E.2.1 ≤ E.1.cells ∧ E.2.2.1 ≤ E.1.slots
abbrev okY (y : MethodName) (n : Nat) : Prop := y.cls ≠ "java/lang/invoke/MethodHandle" ∧ y.cls ≠ "java/lang/invoke/VarHandle" ∧ (parseMethodDescriptor y.desc).map (fun d => d.parameters.length) = some n
theorem g_callS (w1 : Cond.code y b' nL' ret' ∈ tb) (w2 : Cond.methodLink own index y ∈ tb) (w3 : Cond.static y ∈ tb) (w4 : Cond.initialized y.cls ∈ tb) (hy : okY y n)
    (hE : Ev y b' nL' ret' h' avs M Q') (hst : st = avs.reverse ++ rest) (hn : avs.length = n) (hR : okRoom h' E nL') (hc : (rest.map fun v => v.category).sum ≤ 8) (hdg : decode b pc = .ok (.invokestatic index, 3))
    (kk : ∀ (r : Option Value) (M' : Mem), Q' r M' → G own b nL ret E (pc + 3) L (r.toList ++ rest) M') : G own b nL ret E pc L st M := by
  intro p l e s m args below meth c D cI cZ cS ad A C CX H locs ls hP hD hS hl
  have hts := C.2.2.2.2.2.1
  refine g_after C hP hD hS hl CX (va_runS (nL := nL) (Ts := tb) (own := own) (bytes := b') (maxL := nL') (ret := ret') (index := index) (n := n) (As := avs.map (ren ad)) ⟨C.1, C.2.1, C.2.2.2.1, C.2.2.2.2.1, hts⟩ (hE l D cI cZ cS ad H.size) ?_ (g_pre C hP hD hS) rfl (by rw [List.length_map]; exact hn) hl.1 ?_ (lv_room (by rw [sum_ren]; exact hc)) hdg ⟨hR.2.2.1, hR.2.2.2⟩) kk
  · refine va_cwS n hts ?_ rfl rfl rfl hy ⟨hR.1, hR.2.1⟩
    intro w hw
    unfold va_wsS at hw
    rcases List.mem_append.mp hw with hw | hw
    · simp only [List.mem_cons, List.not_mem_nil, or_false] at hw
      rcases hw with rfl | rfl | rfl
      · exact good_tbl w2
      · exact good_tbl w3
      · exact good_tbl w4
    · exact good_code w1 w hw
  · show st.map (ren ad) = _
    rw [hst, List.map_append, List.map_reverse]
theorem g_callSN {host : String} (w1 : Cond.code y b' nL' ret' ∈ tb) (w2 : Cond.methodLinkNest own index y host ∈ nwl) (w3 : Cond.static y ∈ tb) (w4 : Cond.initialized y.cls ∈ tb) (hy : okY y n)
    (hE : Ev y b' nL' ret' h' avs M Q') (hst : st = avs.reverse ++ rest) (hn : avs.length = n) (hR : okRoom h' E nL') (hc : (rest.map fun v => v.category).sum ≤ 8) (hdg : decode b pc = .ok (.invokestatic index, 3))
    (kk : ∀ (r : Option Value) (M' : Mem), Q' r M' → G own b nL ret E (pc + 3) L (r.toList ++ rest) M') : G own b nL ret E pc L st M := by
  intro p l e s m args below meth c D cI cZ cS ad A C CX H locs ls hP hD hS hl
  have hts := C.2.2.2.2.2.1
  refine g_after C hP hD hS hl CX (va_runSN (nL := nL) (Ts := tb) (own := own) (host := host) (bytes := b') (maxL := nL') (ret := ret') (index := index) (n := n) (As := avs.map (ren ad)) ⟨C.1, C.2.1, C.2.2.2.1, C.2.2.2.2.1, hts⟩ (hE l D cI cZ cS ad H.size) ⟨?_, hts _ w3, trivial⟩ (g_pre C hP hD hS) rfl (by rw [List.length_map]; exact hn) hl.1 ?_ (lv_room (by rw [sum_ren]; exact hc)) hdg ⟨hR.2.2.1, hR.2.2.2⟩) kk
  · exact va_cnB n hts (good_code w1) rfl rfl rfl (C.2.2.2.2.2.2.2.2.1.2.2 _ w2) (hts _ w4) hy ⟨hR.1, hR.2.1⟩
  · show st.map (ren ad) = _
    rw [hst, List.map_append, List.map_reverse]
theorem g_recv {p : Program} {s : State} {m : MethodId} {args : Array Value} {meth : Method} {c : Code} {D : va_G} {cI cZ cS : ClassId} {ad : Nat → Nat} {A : Nat → Prop} {H : Heap} (C : GC own b nL ret p s m args meth c D cI cZ cS ad A) (hP : va_P D vwCl (Wd cI cZ cS ad M) H) {k ci N : Nat} {Cn : String} {T : u_T} (hk : k < 42) (hs : shK k = ci) (hci : ci < 6) (hcl : vwCl[ci]? = some (Cn, T, N)) : ∃ cell : Cell, H[ad k]? = some cell ∧ cell.vm.isStatics = false ∧ s.vm.findClass Cn = some cell.cls := by
  have he := Wd_get cI cZ cS ad M hk
  rw [ent_obj cI cZ cS ad M hs hci] at he
  exact va_recv (q := (Cn, T, N)) C.2.2.2.2.2.2.2.1 hP hcl he
theorem g_callV {k ci N : Nat} {Cn : String} {T : u_T} (w1 : Cond.code y b' nL' ret' ∈ tb) (w2 : Cond.methodLink own index y ∈ tb) (w3 : Cond.instanceMethod y ∈ tb) (w4 : Cond.selects Cn y y ∈ tb) (w5 : Cond.initialized Cn ∈ tb) (hcn : y.cls = Cn) (hy : okY y n) (hci : ci < 6) (hcl : vwCl[ci]? = some (Cn, T, N))
    (hk : k < 42) (hs : shK k = ci) (hE : Ev y b' nL' ret' h' (.ref k :: avs) M Q') (hst : st = (.ref k :: avs).reverse ++ rest) (hn : avs.length = n) (hR : okRoom h' E nL') (hc : (rest.map fun v => v.category).sum ≤ 8) (hdg : decode b pc = .ok (.invokevirtual index, 3))
    (kk : ∀ (r : Option Value) (M' : Mem), Q' r M' → G own b nL ret E (pc + 3) L (r.toList ++ rest) M') : G own b nL ret E pc L st M := by
  intro p l e s m args below meth c D cI cZ cS ad A C CX H locs ls hP hD hS hl
  have hts := C.2.2.2.2.2.1
  refine g_after C hP hD hS hl CX (va_runV (nL := nL) (Ts := tb) (own := own) (C := Cn) (b := ad k) (bytes := b') (maxL := nL') (ret := ret') (index := index) (n := n) (As := avs.map (ren ad)) ⟨C.1, C.2.1, C.2.2.2.1, C.2.2.2.2.1, hts⟩ (hE l D cI cZ cS ad H.size) ?_ ⟨(g_pre C hP hD hS).1, g_recv C hP hk hs hci hcl, (g_pre (avs := .ref k :: avs) C hP hD hS).2⟩ rfl (by rw [List.length_map]; exact hn) hl.1 ?_ (lv_room (by rw [sum_ren]; exact hc)) hdg ⟨hR.2.2.1, hR.2.2.2⟩) kk
  · refine cwV n hts ?_ rfl rfl rfl ⟨hcn, hy⟩ ⟨hR.1, hR.2.1⟩
    intro w hw
    unfold wsV at hw
    rcases List.mem_append.mp hw with hw | hw
    · simp only [List.mem_cons, List.not_mem_nil, or_false] at hw
      rcases hw with rfl | rfl | rfl | rfl
      · exact good_tbl w2
      · exact good_tbl w3
      · exact good_tbl w4
      · exact good_tbl w5
    · exact good_code w1 w hw
  · show st.map (ren ad) = _
    rw [hst]
    simp [ren]
theorem g_callVN {host : String} {k ci N : Nat} {Cn : String} {T : u_T} (w1 : Cond.code y b' nL' ret' ∈ tb) (w2 : Cond.methodLinkNest own index y host ∈ nwl) (w3 : Cond.instanceMethod y ∈ tb) (w4 : Cond.selects Cn y y ∈ tb) (w5 : Cond.initialized y.cls ∈ tb) (hy : okY y n) (hci : ci < 6) (hcl : vwCl[ci]? = some (Cn, T, N))
    (hk : k < 42) (hs : shK k = ci) (hE : Ev y b' nL' ret' h' (.ref k :: avs) M Q') (hst : st = (.ref k :: avs).reverse ++ rest) (hn : avs.length = n) (hR : okRoom h' E nL') (hc : (rest.map fun v => v.category).sum ≤ 8) (hdg : decode b pc = .ok (.invokevirtual index, 3))
    (kk : ∀ (r : Option Value) (M' : Mem), Q' r M' → G own b nL ret E (pc + 3) L (r.toList ++ rest) M') : G own b nL ret E pc L st M := by
  intro p l e s m args below meth c D cI cZ cS ad A C CX H locs ls hP hD hS hl
  have hts := C.2.2.2.2.2.1
  refine g_after C hP hD hS hl CX (va_runVN (nL := nL) (Ts := tb) (own := own) (host := host) (C := Cn) (b := ad k) (bytes := b') (maxL := nL') (ret := ret') (index := index) (n := n) (As := avs.map (ren ad)) ⟨C.1, C.2.1, C.2.2.2.1, C.2.2.2.2.1, hts⟩ (hE l D cI cZ cS ad H.size) ⟨?_, hts _ w3, hts _ w4⟩ ⟨(g_pre C hP hD hS).1, g_recv C hP hk hs hci hcl, (g_pre (avs := .ref k :: avs) C hP hD hS).2⟩ rfl (by rw [List.length_map]; exact hn) hl.1 ?_ (lv_room (by rw [sum_ren]; exact hc)) hdg ⟨hR.2.2.1, hR.2.2.2⟩) kk
  · exact va_cnB n hts (good_code w1) rfl rfl rfl (C.2.2.2.2.2.2.2.2.1.2.2 _ w2) (hts _ w5) hy ⟨hR.1, hR.2.1⟩
  · show st.map (ren ad) = _
    rw [hst]
    simp [ren]
end GCALL2
