/-! constructors: worlds that grow -/
/-- what a walk of a constructor, or of the law's beginning, stands on -/
def KC (own : String) (b : ByteArray) (nL : Nat) (p : Program) (s : State) (m : MethodId) (args : Array Value) (meth : Method) (c : Code) (D : va_G) (cI cZ cS : ClassId) (A : Nat → Prop) : Prop :=
  p.tables.exec = Jvm.exec ∧ c.code = b ∧ c.maxLocals = nL ∧ s.vm.findClass own = some m.cls ∧ (∀ w ∈ tb, w.before args s = true) ∧ meth.locks = false ∧ va_K D vwCl (ty3 cI cZ cS) s ∧ (∀ q : Nat, s.heap.size ≤ q → A q) ∧ (∀ w ∈ nwl, va_Nw w s) ∧ va_AO "SilentAsking$Store" s
section KROWS
variable {own : String} {b : ByteArray} {nL : Nat} {p : Program} {l : Launch} {e : Env} {R : Room} {s : State} {m : MethodId} {args : Array Value} {below : List Frame} {meth : Method} {c : Code} {D : va_G} {cI cZ cS : ClassId} {A : Nat → Prop} {H : Heap} {locs : List Loc} {cells slots : Nat} {Q : State → Prop} {ls : Array Slot} {pc : Nat} {rest : List Value} {ws : va_W}
theorem k_newI (C : KC own b nL p s m args meth c D cI cZ cS A) (hP : va_P D vwCl ws H) (hD : va_D A ws) (hS : va_S A s.heap H locs) {n : Int32} {N : Nat} (hn : ¬ n < 0) (hN : n.toNatClampNeg = N) (hbytes : N * componentBytes .int ≤ 536870912) (hcells : cells + 1 ≤ R.cells) (hslots : slots + N ≤ R.slots) (hdg : decode b pc = .ok (.newarray .int, 2))
    (kk : ∀ (q : Nat) (H1 : Heap), va_P D vwCl (ws ++ [(q, .inl (cI, N, .inl (fun _ => 0)))]) H1 → va_D A (ws ++ [(q, .inl (cI, N, .inl (fun _ => 0)))]) → va_S A s.heap H1 locs → W p l e R s m args below meth c H1 locs (cells + 1) (slots + N) Q (F0 m (pc + 2) ls (.ref q :: rest))) : W p l e R s m args below meth c H locs cells slots Q (F0 m pc ls (.int n :: rest)) := by
  refine va_newa (atype := .int) C.1 C.2.1 (C.2.2.2.2.1 _ (tb_w 102 (by decide +kernel) rfl)) rfl C.2.2.2.2.2.2.1 hP hD hS C.2.2.2.2.2.2.2.1 (a0 := (N, .inl (fun _ => 0))) (fun cA => rfl) hn hN hbytes hcells hslots hdg (fun q cA H1 hK1 hP1 hD1 hS1 => ?_)
  have h1 := (hK1.2 0 _ rfl).2
  have h2 := (hK1.2 3 _ rfl).2
  obtain rfl : cA = cI := Option.some.inj (h2.symm.trans h1)
  exact kk q H1 hP1 hD1 hS1
theorem k_newZ (C : KC own b nL p s m args meth c D cI cZ cS A) (hP : va_P D vwCl ws H) (hD : va_D A ws) (hS : va_S A s.heap H locs) {n : Int32} {N : Nat} (hn : ¬ n < 0) (hN : n.toNatClampNeg = N) (hbytes : N * componentBytes .boolean ≤ 536870912) (hcells : cells + 1 ≤ R.cells) (hslots : slots + N ≤ R.slots) (hdg : decode b pc = .ok (.newarray .boolean, 2))
    (kk : ∀ (q : Nat) (H1 : Heap), va_P D vwCl (ws ++ [(q, .inl (cZ, N, .inl (fun _ => 0)))]) H1 → va_D A (ws ++ [(q, .inl (cZ, N, .inl (fun _ => 0)))]) → va_S A s.heap H1 locs → W p l e R s m args below meth c H1 locs (cells + 1) (slots + N) Q (F0 m (pc + 2) ls (.ref q :: rest))) : W p l e R s m args below meth c H locs cells slots Q (F0 m pc ls (.int n :: rest)) := by
  refine va_newa (atype := .boolean) C.1 C.2.1 (C.2.2.2.2.1 _ (tb_w 526 (by decide +kernel) rfl)) rfl C.2.2.2.2.2.2.1 hP hD hS C.2.2.2.2.2.2.2.1 (a0 := (N, .inl (fun _ => 0))) (fun cA => rfl) hn hN hbytes hcells hslots hdg (fun q cA H1 hK1 hP1 hD1 hS1 => ?_)
  have h1 := (hK1.2 1 _ rfl).2
  have h2 := (hK1.2 3 _ rfl).2
  obtain rfl : cA = cZ := Option.some.inj (h2.symm.trans h1)
  exact kk q H1 hP1 hD1 hS1
theorem k_newS (C : KC own b nL p s m args meth c D cI cZ cS A) (hP : va_P D vwCl ws H) (hD : va_D A ws) (hS : va_S A s.heap H locs) {index : Nat} (hcl : Cond.classLink own index "SilentAsking$Store" ∈ tb) {n : Int32} {N : Nat} (hn : ¬ n < 0) (hN : n.toNatClampNeg = N) (hbytes : N * 4 ≤ 536870912) (hcells : cells + 1 ≤ R.cells) (hslots : slots + N ≤ R.slots) (hdg : decode b pc = .ok (.anewarray index, 3))
    (kk : ∀ (q : Nat) (H1 : Heap), va_P D vwCl (ws ++ [(q, .inl (cS, N, .inr (.inr (.inr (.inr (fun _ => none))))))]) H1 → va_D A (ws ++ [(q, .inl (cS, N, .inr (.inr (.inr (.inr (fun _ => none))))))]) → va_S A s.heap H1 locs → W p l e R s m args below meth c H1 locs (cells + 1) (slots + N) Q (F0 m (pc + 3) ls (.ref q :: rest))) : W p l e R s m args below meth c H locs cells slots Q (F0 m pc ls (.int n :: rest)) := by
  refine va_newq C.1 C.2.1 C.2.2.2.1 (C.2.2.2.2.1 _ hcl) C.2.2.2.2.2.2.2.2.2 C.2.2.2.2.2.2.1 hP hD hS C.2.2.2.2.2.2.2.1 hn hN hbytes hcells hslots hdg (fun q cA H1 hK1 hP1 hD1 hS1 => ?_)
  obtain ⟨k1, c1, -, -, -, h1⟩ := (hK1.2 2 _ rfl).2
  obtain ⟨k2, c2, -, -, -, h2⟩ := (hK1.2 3 _ rfl).2
  obtain rfl : cA = cS := Option.some.inj (h2.symm.trans h1)
  exact kk q H1 hP1 hD1 hS1
theorem k_objInit (C : KC own b nL p s m args meth c D cI cZ cS A) {idx : Nat} (hw : Cond.methodLink own idx objectInit ∈ tb) {a : Nat} (hsz : ls.size = nL) (hc : (rest.map fun v => v.category).sum = 0) (hdg : decode b pc = .ok (.invokespecial idx, 3)) (hf : 1 ≤ R.frames) (hlo : 12 ≤ R.locals) (kk : W p l e R s m args below meth c H locs cells slots Q (F0 m (pc + 3) ls rest)) : W p l e R s m args below meth c H locs cells slots Q (F0 m pc ls (.ref a :: rest)) := by
  refine W.objInit C.1 C.2.1 C.2.2.2.1 (C.2.2.2.2.1 _ hw) (C.2.2.2.2.1 _ (tb_w 64 (by decide +kernel) rfl)) (C.2.2.2.2.1 _ (tb_w 65 (by decide +kernel) rfl)) rfl (hsz.trans C.2.2.1.symm) rfl hdg hf ?_ kk
  rw [hc]
  exact hlo
/-- behind a call: the callee's cell was the last -/
theorem join_last {x : Nat × va_E} {w1 : va_W} {H1 : Heap} (hP : va_P D vwCl (ws ++ [x]) H) (hD : va_D A (ws ++ [x])) (hk : ∀ q : Nat, q < H.size → ¬ va_A [x] H.size q → H1[q]? = H[q]?) (hF : ∀ q, va_A [x] H.size q → A q) (hP1 : va_P D vwCl w1 H1) (hD1 : va_D (va_A [x] H.size) w1) : va_P D vwCl (ws ++ w1) H1 ∧ va_D A (ws ++ w1) := by
  have hat : ∀ (k : Nat) (q : Nat × va_E), ws[k]? = some q → (ws ++ [x])[k]? = some q := fun k q hq => by
    rw [List.getElem?_append_left (List.getElem?_eq_some_iff.mp hq).1]
    exact hq
  have hlast : (ws ++ [x])[ws.length]? = some x := by
    rw [List.getElem?_append_right (Nat.le_refl _), Nat.sub_self]
    rfl
  have apart : ∀ (k : Nat) (q : Nat × va_E), ws[k]? = some q → q.1 < H.size ∧ ¬ va_A [x] H.size q.1 := by
    intro k q hq
    have hl := (hP k q (hat k q hq)).lt
    refine ⟨hl, fun h => ?_⟩
    rcases h with ⟨k2, e, h⟩ | h
    · have hk2 : k2 < 1 := (List.getElem?_eq_some_iff.mp h).1
      obtain rfl : k2 = 0 := by omega
      have hx : x = (q.1, e) := Option.some.inj h
      have := hD.1 k ws.length q x (hat k q hq) hlast (by rw [hx])
      have := (List.getElem?_eq_some_iff.mp hq).1
      omega
    · omega
  have hPw : va_P D vwCl ws H := fun k q hq => hP k q (hat k q hq)
  have hDw : va_D A ws := ⟨fun i j a a' h1 h2 h3 => hD.1 i j a a' (hat i a h1) (hat j a' h2) h3, fun k q hq => hD.2 k q (hat k q hq)⟩
  refine ⟨va_P.app (hPw.kept (fun k q hq => hk q.1 (apart k q hq).1 (apart k q hq).2)) hP1, va_D.app hDw (hD1.weaken (fun k q _ h => hF q.1 h)) (fun i j a a' h1 h2 h3 => ?_)⟩
  exact (apart i a h1).2 (h3 ▸ hD1.2 j a' h2)
end KROWS
/-- a constructor's contract: from the object with its fields' first values to the cells w1 -/
def KM (y : MethodName) (b : ByteArray) (nL : Nat) (rm : Room) (ci : Nat) (fs : List Value) (S : Type) (w1 : ClassId → ClassId → ClassId → Nat → S → va_W) : Prop :=
  ∀ (l : Launch) (D : va_G) (cI cZ cS : ClassId) (h0 sz : Nat), Met l y (.code y b nL none :: tb) rm
    (va_Pc [.ref h0] (fun U => U.heap.size = sz ∧ va_P D vwCl [(h0, .inr (ci, fs))] U.heap ∧ va_K D vwCl (ty3 cI cZ cS) U ∧ va_D (va_A [(h0, .inr (ci, fs))] sz) [(h0, .inr (ci, fs))] ∧ (∀ w ∈ nwl, va_Nw w U) ∧ va_AO "SilentAsking$Store" U))
    (va_Qv (fun _ : S => True) (fun u t => va_P D vwCl (w1 cI cZ cS h0 u) t.heap ∧ va_D (va_A [(h0, .inr (ci, fs))] sz) (w1 cI cZ cS h0 u)) (va_A [(h0, .inr (ci, fs))] sz)) rm.cells rm.slots (va_A [(h0, .inr (ci, fs))] sz)
theorem KM.of {y : MethodName} {b : ByteArray} {nL : Nat} {rm : Room} {ci : Nat} {fs : List Value} {S : Type} {w1 : ClassId → ClassId → ClassId → Nat → S → va_W} (hy : plainName y.cls = true) (hn : 1 ≤ nL)
    (hG : ∀ (p : Program) (l : Launch) (e : Env) (s : State) (m : MethodId) (args : Array Value) (below : List Frame) (meth : Method) (c : Code) (D : va_G) (cI cZ cS : ClassId) (A : Nat → Prop) (h0 : Nat) (ls : Array Slot), KC y.cls b nL p s m args meth c D cI cZ cS A → meth.sig.returnType = none → meth.name = y.name → va_P D vwCl [(h0, .inr (ci, fs))] s.heap → va_D A [(h0, .inr (ci, fs))] → va_S A s.heap s.heap [] → lv_has ls nL [(0, .ref h0)] →
      W p l e rm s m args below meth c s.heap [] 0 0 (MQ below (va_Qv (fun _ : S => True) (fun u t => va_P D vwCl (w1 cI cZ cS h0 u) t.heap ∧ va_D A (w1 cI cZ cS h0 u)) A) args s rm.cells rm.slots A) (F0 m 0 ls [])) : KM y b nL rm ci fs S w1 := by
  intro l D cI cZ cS h0 sz
  refine Met.ofW (cc := b) (maxL := nL) (ret := none) hy rfl ?_
  intro p e s m args below meth c s₁ B hml hv
  obtain ⟨rfl, hsz, hP, hK, hD, hN, hAO⟩ := hv
  subst hsz
  have hts0 := atoms_spec (ws := .code y b nL none :: tb) B.pre
  have hts : ∀ w ∈ tb, w.before ([.ref h0] : List Value).toArray s = true := fun w hw => hts0 w (List.mem_cons_of_mem _ hw)
  have hown : s.vm.findClass y.cls = some m.cls := findClass_of_methodNamed B.named
  have hin : meth.name = y.name := (name_of_methodNamed B.named B.method).1
  have hl := lv_entry ([.ref h0]) (n := nL) hn
  rw [lg_entry_eq]
  exact hG p l e s m _ below meth c D cI cZ cS _ h0 _ ⟨B.exec, B.bytes, hml, hown, hts, B.notSynchronized, hK, fun q hq => Or.inr hq, hN, hAO⟩ B.returns hin hP hD va_S.rf hl
theorem km_blind {ci : Nat} {fs : List Value} {D : va_G} {cI cZ cS : ClassId} {h0 sz : Nat} : FrameBlind (va_Pc [.ref h0] (fun U => U.heap.size = sz ∧ va_P D vwCl [(h0, .inr (ci, fs))] U.heap ∧ va_K D vwCl (ty3 cI cZ cS) U ∧ va_D (va_A [(h0, .inr (ci, fs))] sz) [(h0, .inr (ci, fs))] ∧ (∀ w ∈ nwl, va_Nw w U) ∧ va_AO "SilentAsking$Store" U)) := by
  intro a U g mk hq
  obtain ⟨q0, q1, q2, q3, q4, q5, q6⟩ := hq
  exact ⟨q0, q1, q2, va_K.moved (u := U) (U := U.calling g mk a) (Vm.Alike.refl U.vm) q3, q4, fun w hw => nwl_same (u := U) (U := U.calling g mk a) hw rfl (q5 w hw), va_AO.moved (u := U) (U := U.calling g mk a) (Vm.Alike.refl U.vm) q6⟩
section KCALL
variable {own : String} {b : ByteArray} {nL : Nat} {p : Program} {l : Launch} {e : Env} {R : Room} {s : State} {m : MethodId} {args : Array Value} {below : List Frame} {meth : Method} {c : Code} {D : va_G} {cI cZ cS : ClassId} {A : Nat → Prop} {H : Heap} {locs : List Loc} {cells slots : Nat} {Q : State → Prop} {ls : Array Slot} {pc : Nat} {rest : List Value} {ws : va_W}
variable {y : MethodName} {b' : ByteArray} {nL' : Nat} {rm : Room} {ci : Nat} {fs : List Value} {S : Type} {w1 : ClassId → ClassId → ClassId → Nat → S → va_W} {h0 : Nat}
theorem k_pre (C : KC own b nL p s m args meth c D cI cZ cS A) (hP : va_P D vwCl (ws ++ [(h0, .inr (ci, fs))]) H) (hD : va_D A (ws ++ [(h0, .inr (ci, fs))])) : PreS s H (va_Pc [.ref h0] (fun U => U.heap.size = H.size ∧ va_P D vwCl [(h0, .inr (ci, fs))] U.heap ∧ va_K D vwCl (ty3 cI cZ cS) U ∧ va_D (va_A [(h0, .inr (ci, fs))] H.size) [(h0, .inr (ci, fs))] ∧ (∀ w ∈ nwl, va_Nw w U) ∧ va_AO "SilentAsking$Store" U)) [.ref h0] := by
  have hlast : (ws ++ [((h0, .inr (ci, fs)) : Nat × va_E)])[ws.length]? = some (h0, .inr (ci, fs)) := by
    rw [List.getElem?_append_right (Nat.le_refl _), Nat.sub_self]
    rfl
  refine ⟨km_blind, fun U hU hW => ⟨rfl, by rw [hU], fun k q hq => ?_, va_K.moved hW.alike C.2.2.2.2.2.2.1, ⟨fun i j a a' h1 h2 _ => ?_, fun k q hq => va_A.in hq⟩, fun w hw => nwl_warm hw hW (C.2.2.2.2.2.2.2.2.1 w hw), va_AO.moved hW.alike C.2.2.2.2.2.2.2.2.2⟩⟩
  · have hk : k < 1 := (List.getElem?_eq_some_iff.mp hq).1
    obtain rfl : k = 0 := by omega
    have hx := Option.some.inj hq
    rw [← hx, hU]
    exact hP _ _ hlast
  · have hi : i < 1 := (List.getElem?_eq_some_iff.mp h1).1
    have hj : j < 1 := (List.getElem?_eq_some_iff.mp h2).1
    omega
theorem k_free (C : KC own b nL p s m args meth c D cI cZ cS A) (hD : va_D A (ws ++ [(h0, .inr (ci, fs))])) (hS : va_S A s.heap H locs) : ∀ q, va_A [(h0, .inr (ci, fs))] H.size q → A q := by
  intro q h
  rcases h with ⟨k2, e, h⟩ | h
  · have hk2 : k2 < 1 := (List.getElem?_eq_some_iff.mp h).1
    obtain rfl : k2 = 0 := by omega
    have hx : (h0, .inr (ci, fs)) = (q, e) := Option.some.inj h
    have hlast : (ws ++ [((h0, .inr (ci, fs)) : Nat × va_E)])[ws.length]? = some (h0, .inr (ci, fs)) := by
      rw [List.getElem?_append_right (Nat.le_refl _), Nat.sub_self]
      rfl
    have := hD.2 _ _ hlast
    rw [show q = h0 from (congrArg Prod.fst hx).symm]
    exact this
  · exact C.2.2.2.2.2.2.2.1 q (Nat.le_trans hS.1 h)
theorem k_callN {host : String} {index : Nat} (w1' : Cond.code y b' nL' none ∈ tb) (w2 : Cond.methodLinkNest own index y host ∈ nwl) (w3 : Cond.instanceMethod y ∈ tb) (w4 : Cond.initialized y.cls ∈ tb) (hy : okY y 0) (hyn : y.name = "<init>") (C : KC own b nL p s m args meth c D cI cZ cS A) (hP : va_P D vwCl (ws ++ [(h0, .inr (ci, fs))]) H) (hD : va_D A (ws ++ [(h0, .inr (ci, fs))])) (hS : va_S A s.heap H locs) (hM : KM y b' nL' rm ci fs S w1) (hsz : ls.size = nL) (hR : (rm.frames + 1 ≤ R.frames ∧ 8 + (nL' + 11) + rm.locals ≤ R.locals) ∧ cells + rm.cells ≤ R.cells ∧ slots + rm.slots ≤ R.slots) (hc : (rest.map fun v => v.category).sum ≤ 8) (hdg : decode b pc = .ok (.invokespecial index, 3))
    (kk : ∀ (u : S) (H1 : Heap) (locs1 : List Loc), va_P D vwCl (ws ++ w1 cI cZ cS h0 u) H1 → va_D A (ws ++ w1 cI cZ cS h0 u) → va_S A s.heap H1 locs1 → W p l e R s m args below meth c H1 locs1 (cells + rm.cells) (slots + rm.slots) Q (F0 m (pc + 3) ls rest)) : W p l e R s m args below meth c H locs cells slots Q (F0 m pc ls (.ref h0 :: rest)) := by
  have hts := C.2.2.2.2.1
  have hF := k_free C hD hS
  refine va_callv (va_runIN (nL := nL) (Ts := tb) (own := own) (host := host) (bytes := b') (maxL := nL') (index := index) (n := 0) (As := []) (rest := rest) ⟨C.1, C.2.1, C.2.2.1, C.2.2.2.1, hts⟩ (hM l D cI cZ cS h0 H.size) ⟨va_cnB 0 hts (good_code w1') rfl rfl rfl (C.2.2.2.2.2.2.2.2.1 _ w2) (hts _ w4) hy hR.1, hyn, hts _ w3⟩ (k_pre C hP hD) rfl rfl hsz rfl (lv_room hc) hdg hR.2) hS (fun q _ h => hF q h) hF (fun u t H1 locs1 ht _ _ hB _ hk1 hS1 => ?_)
  obtain ⟨hP1, hD1⟩ := hB
  rw [ht] at hP1
  obtain ⟨hP2, hD2⟩ := join_last hP hD hk1 hF hP1 hD1
  exact kk u H1 locs1 hP2 hD2 hS1
theorem k_callI {index : Nat} (w1' : Cond.code y b' nL' none ∈ tb) (w2 : Cond.methodLink own index y ∈ tb) (w3 : Cond.instanceMethod y ∈ tb) (w4 : Cond.initialized y.cls ∈ tb) (hy : okY y 0) (hyn : y.name = "<init>") (C : KC own b nL p s m args meth c D cI cZ cS A) (hP : va_P D vwCl (ws ++ [(h0, .inr (ci, fs))]) H) (hD : va_D A (ws ++ [(h0, .inr (ci, fs))])) (hS : va_S A s.heap H locs) (hM : KM y b' nL' rm ci fs S w1) (hsz : ls.size = nL) (hR : (rm.frames + 1 ≤ R.frames ∧ 8 + (nL' + 11) + rm.locals ≤ R.locals) ∧ cells + rm.cells ≤ R.cells ∧ slots + rm.slots ≤ R.slots) (hc : (rest.map fun v => v.category).sum ≤ 8) (hdg : decode b pc = .ok (.invokespecial index, 3))
    (kk : ∀ (u : S) (H1 : Heap) (locs1 : List Loc), va_P D vwCl (ws ++ w1 cI cZ cS h0 u) H1 → va_D A (ws ++ w1 cI cZ cS h0 u) → va_S A s.heap H1 locs1 → W p l e R s m args below meth c H1 locs1 (cells + rm.cells) (slots + rm.slots) Q (F0 m (pc + 3) ls rest)) : W p l e R s m args below meth c H locs cells slots Q (F0 m pc ls (.ref h0 :: rest)) := by
  have hts := C.2.2.2.2.1
  have hF := k_free C hD hS
  refine va_callv (va_runI (nL := nL) (Ts := tb) (own := own) (bytes := b') (maxL := nL') (index := index) (n := 0) (As := []) (rest := rest) ⟨C.1, C.2.1, C.2.2.1, C.2.2.2.1, hts⟩ (hM l D cI cZ cS h0 H.size) (cwI 0 hts (good_code w1') rfl rfl rfl (hts _ w4) (hts _ w2) (hts _ w3) hyn hy hR.1) (k_pre C hP hD) rfl rfl hsz rfl (lv_room hc) hdg hR.2) hS (fun q _ h => hF q h) hF (fun u t H1 locs1 ht _ _ hB _ hk1 hS1 => ?_)
  obtain ⟨hP1, hD1⟩ := hB
  rw [ht] at hP1
  obtain ⟨hP2, hD2⟩ := join_last hP hD hk1 hF hP1 hD1
  exact kk u H1 locs1 hP2 hD2 hS1
end KCALL
