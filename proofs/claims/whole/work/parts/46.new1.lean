/-! rows for worlds that grow: objects, fields, places of the stores' array; words of the constructors -/
section KROWS2
variable {own : String} {b : ByteArray} {nL : Nat} {p : Program} {l : Launch} {e : Env} {R : Room} {s : State} {m : MethodId} {args : Array Value} {below : List Frame} {meth : Method} {c : Code} {D : va_G} {cI cZ cS : ClassId} {A : Nat → Prop} {H : Heap} {locs : List Loc} {cells slots : Nat} {Q : State → Prop} {ls : Array Slot} {pc : Nat} {rest : List Value} {ws : va_W}
theorem k_new (C : KC own b nL p s m args meth c D cI cZ cS A) (hP : va_P D vwCl ws H) (hD : va_D A ws) (hS : va_S A s.heap H locs) {C0 : String} {T : u_T} {N ci index : Nat} (ty : Nat → FieldType) (hin : ∀ w ∈ u_ws C0 T N, w ∈ tb) (hty : ∀ k, k < N → parseFieldDescriptor (T k).2.2.1 = some (ty k)) (hcl : Cond.classLink own index C0 ∈ tb) (hinst : Cond.instantiable C0 N ∈ tb) (hini : Cond.initialized C0 ∈ tb) (hc : vwCl[ci]? = some (C0, T, N)) {fs : List Value} (hfs : ∀ j, j < N → defaultValue (ty j) = vp_V fs j) (hcells : cells + 1 ≤ R.cells) (hslots : slots + N ≤ R.slots) (hdg : decode b pc = .ok (.new index, 3))
    (kk : ∀ (q : Nat) (H1 : Heap), va_P D vwCl (ws ++ [(q, .inr (ci, fs))]) H1 → va_D A (ws ++ [(q, .inr (ci, fs))]) → va_S A s.heap H1 locs → W p l e R s m args below meth c H1 locs (cells + 1) (slots + N) Q (F0 m (pc + 3) ls (.ref q :: rest))) : W p l e R s m args below meth c H locs cells slots Q (F0 m pc ls rest) :=
  va_new C.1 C.2.1 C.2.2.2.2.1 hin ty hty C.2.2.2.1 (C.2.2.2.2.1 _ hcl) (C.2.2.2.2.1 _ hinst) (C.2.2.2.2.1 _ hini) C.2.2.2.2.2.2.1 hP hD hS C.2.2.2.2.2.2.2.1 hc hfs hcells hslots hdg kk
theorem k_put (C : KC own b nL p s m args meth c D cI cZ cS A) (hP : va_P D vwCl ws H) (hD : va_D A ws) (hS : va_S A s.heap H locs) (q0 : Nat) {C0 : String} {T : u_T} {N ci index a : Nat} {fs : List Value} (ty0 : Nat → FieldType) (hty : ∀ k, k < N → parseFieldDescriptor (T k).2.2.1 = some (ty0 k)) (hnm : ∀ a, a < N → ∀ b, b < N → a ≠ b → (T a).2.1 ≠ (T b).2.1) (hin : ∀ w ∈ u_ws C0 T N, w ∈ tb) (he : ws[q0]? = some (a, .inr (ci, fs))) (hc : vwCl[ci]? = some (C0, T, N)) (k : Nat) (hk : k < N) (hw : Cond.fieldLink own index (T k).1 (T k).2.1 (T k).2.2.1 ∈ tb) (hfin : (T k).2.2.2 = false) {ty : FieldType} {v : Value} (hd : parseFieldDescriptor (T k).2.2.1 = some ty) (hn : narrow ty v = v) (hfit : fits ty v = true) (hl : k < fs.length) (hdg : decode b pc = .ok (.putfield index, 3))
    (kk : ∀ (H1 : Heap) (locs1 : List Loc), va_P D vwCl (ws.set q0 (a, .inr (ci, fs.set k v))) H1 → va_D A (ws.set q0 (a, .inr (ci, fs.set k v))) → va_S A s.heap H1 locs1 → W p l e R s m args below meth c H1 locs1 cells slots Q (F0 m (pc + 3) ls rest)) : W p l e R s m args below meth c H locs cells slots Q (F0 m pc ls (v :: .ref a :: rest)) :=
  va_put C.1 C.2.1 C.2.2.2.2.1 hin ty0 hty hnm C.2.2.2.1 C.2.2.2.2.2.2.1 hP hD hS q0 he hc k hk (C.2.2.2.2.1 _ hw) (fun _ q => q) hfin hd hn hfit hl hdg kk
theorem k_putF (C : KC own b nL p s m args meth c D cI cZ cS A) (hin2 : meth.name = "<init>") (hP : va_P D vwCl ws H) (hD : va_D A ws) (hS : va_S A s.heap H locs) (q0 : Nat) {C0 : String} {T : u_T} {N ci index a : Nat} {fs : List Value} (ty0 : Nat → FieldType) (hty : ∀ k, k < N → parseFieldDescriptor (T k).2.2.1 = some (ty0 k)) (hnm : ∀ a, a < N → ∀ b, b < N → a ≠ b → (T a).2.1 ≠ (T b).2.1) (hin : ∀ w ∈ u_ws C0 T N, w ∈ tb) (he : ws[q0]? = some (a, .inr (ci, fs))) (hc : vwCl[ci]? = some (C0, T, N)) (k : Nat) (hk : k < N) (hw : Cond.fieldLink own index (T k).1 (T k).2.1 (T k).2.2.1 ∈ tb) (hfin : (T k).2.2.2 = true) (hdecl : (T k).1 = own) {ty : FieldType} {v : Value} (hd : parseFieldDescriptor (T k).2.2.1 = some ty) (hn : narrow ty v = v) (hfit : fits ty v = true) (hl : k < fs.length) (hdg : decode b pc = .ok (.putfield index, 3))
    (kk : ∀ (H1 : Heap) (locs1 : List Loc), va_P D vwCl (ws.set q0 (a, .inr (ci, fs.set k v))) H1 → va_D A (ws.set q0 (a, .inr (ci, fs.set k v))) → va_S A s.heap H1 locs1 → W p l e R s m args below meth c H1 locs1 cells slots Q (F0 m (pc + 3) ls rest)) : W p l e R s m args below meth c H locs cells slots Q (F0 m pc ls (v :: .ref a :: rest)) :=
  va_putF C.1 C.2.1 C.2.2.2.2.1 hin ty0 hty hnm C.2.2.2.1 C.2.2.2.2.2.2.1 hP hD hS q0 he hc k hk (C.2.2.2.2.1 _ hw) (fun _ q => q) hfin hin2 hdecl hd hn hfit hl hdg kk
theorem k_get (C : KC own b nL p s m args meth c D cI cZ cS A) (hP : va_P D vwCl ws H) (q0 : Nat) {C0 : String} {T : u_T} {N ci index a : Nat} {fs : List Value} (hin : ∀ w ∈ u_ws C0 T N, w ∈ tb) (he : ws[q0]? = some (a, .inr (ci, fs))) (hc : vwCl[ci]? = some (C0, T, N)) (k : Nat) (hk : k < N) (hw : Cond.fieldLink own index (T k).1 (T k).2.1 (T k).2.2.1 ∈ tb) {v : Value} (hv : fs[k]? = some v) (hdg : decode b pc = .ok (.getfield index, 3))
    (kk : W p l e R s m args below meth c H locs cells slots Q (F0 m (pc + 3) ls (v :: rest))) : W p l e R s m args below meth c H locs cells slots Q (F0 m pc ls (.ref a :: rest)) :=
  va_get C.1 C.2.1 C.2.2.2.2.1 hin C.2.2.2.1 C.2.2.2.2.2.2.1 hP q0 he hc k hk (C.2.2.2.2.1 _ hw) (fun _ q => q) hv hdg kk
theorem k_aast (C : KC own b nL p s m args meth c D cI cZ cS A) (hP : va_P D vwCl ws H) (hD : va_D A ws) (hS : va_S A s.heap H locs) (q0 qk : Nat) {a n v N : Nat} {vs : List Value} {f : Nat → Option Nat} (ha : ws[q0]? = some (a, .inl (cS, n, .inr (.inr (.inr (.inr f)))))) (hv : ws[qk]? = some (v, .inr (3, vs))) {i : Int32} (hin : vp_in i n) (hi : i.toNatClampNeg = N) (hdg : decode b pc = .ok (.aastore, 1))
    (kk : ∀ (H1 : Heap) (locs1 : List Loc), va_P D vwCl (ws.set q0 (a, .inl (cS, n, .inr (.inr (.inr (.inr (va_up f N (some v)))))))) H1 → va_D A (ws.set q0 (a, .inl (cS, n, .inr (.inr (.inr (.inr (va_up f N (some v)))))))) → va_S A s.heap H1 locs1 → W p l e R s m args below meth c H1 locs1 cells slots Q (F0 m (pc + 1) ls rest)) : W p l e R s m args below meth c H locs cells slots Q (F0 m pc ls (.ref v :: .int i :: .ref a :: rest)) := by
  subst hi
  exact va_astq C.1 C.2.1 C.2.2.2.2.2.2.1 hP hD hS q0 2 qk 3 (r := (RX3, TX3, 3)) ha rfl hv rfl hin hdg kk
/-- a constructor's end -/
theorem k_ret {S : Type} {w1 : S → va_W} (C : KC own b nL p s m args meth c D cI cZ cS A) (hr : meth.sig.returnType = none) (u : S) (hP : va_P D vwCl (w1 u) H) (hD : va_D A (w1 u)) (hS : va_S A s.heap H locs) {mc ms : Nat} (h1 : cells ≤ mc) (h2 : slots ≤ ms) (hdg : decode b pc = .ok (.return_, 1)) : W p l e R s m args below meth c H locs cells slots (MQ below (va_Qv (fun _ : S => True) (fun u t => va_P D vwCl (w1 u) t.heap ∧ va_D A (w1 u)) A) args s mc ms A) (F0 m pc ls []) := by
  refine W.widen h1 h2 ?_
  exact W.vret C.1 C.2.1 hr (fun t ht hW => ⟨⟨u, rfl, trivial, by rw [ht]; exact hP, hD⟩, hS.F ht⟩) hS.2.2 hdg C.2.2.2.2.2.1
end KROWS2
theorem wk_L_7 : Cond.classLink RL 7 RX4 ∈ tb := tb_w 58 (by decide +kernel) rfl
theorem ww_X4 : Cond.instantiable RX4 11 ∈ tb := tb_w 59 (by decide +kernel) rfl
theorem wm_L_9 : Cond.methodLink RL 9 yX4_init ∈ tb := tb_w 60 (by decide +kernel) rfl
theorem wo_X4 : Cond.methodLink RX4 1 objectInit ∈ tb := tb_w 63 (by decide +kernel) rfl
theorem wk_X4_16 : Cond.classLink RX4 16 RX3 ∈ tb := tb_w 66 (by decide +kernel) rfl
theorem wk_X4_22 : Cond.classLink RX4 22 RX1 ∈ tb := tb_w 68 (by decide +kernel) rfl
theorem ww_X1 : Cond.instantiable RX1 8 ∈ tb := tb_w 69 (by decide +kernel) rfl
theorem wm_X4_24 : Cond.methodLinkNest RX4 24 yX1_init "SilentAsking" ∈ nwl := List.mem_filter.mpr ⟨List.mem_of_getElem? (i := 70) (by decide +kernel), rfl⟩
theorem wo_X1 : Cond.methodLink RX1 3 objectInit ∈ tb := tb_w 73 (by decide +kernel) rfl
theorem wk_X4_29 : Cond.classLink RX4 29 RX2 ∈ tb := tb_w 103 (by decide +kernel) rfl
theorem ww_X2 : Cond.instantiable RX2 3 ∈ tb := tb_w 104 (by decide +kernel) rfl
theorem wm_X4_31 : Cond.methodLinkNest RX4 31 yX2_init "SilentAsking" ∈ nwl := List.mem_filter.mpr ⟨List.mem_of_getElem? (i := 105) (by decide +kernel), rfl⟩
theorem wo_X2 : Cond.methodLink RX2 3 objectInit ∈ tb := tb_w 108 (by decide +kernel) rfl
theorem wk_X4_36 : Cond.classLink RX4 36 RX0 ∈ tb := tb_w 123 (by decide +kernel) rfl
theorem ww_X0 : Cond.instantiable RX0 3 ∈ tb := tb_w 124 (by decide +kernel) rfl
theorem wm_X4_38 : Cond.methodLinkNest RX4 38 yX0_init "SilentAsking" ∈ nwl := List.mem_filter.mpr ⟨List.mem_of_getElem? (i := 125) (by decide +kernel), rfl⟩
theorem wo_X0 : Cond.methodLink RX0 3 objectInit ∈ tb := tb_w 128 (by decide +kernel) rfl
theorem ww_X3 : Cond.instantiable RX3 3 ∈ tb := tb_w 139 (by decide +kernel) rfl
theorem wm_X4_59 : Cond.methodLinkNest RX4 59 yX3_init "SilentAsking" ∈ nwl := List.mem_filter.mpr ⟨List.mem_of_getElem? (i := 140) (by decide +kernel), rfl⟩
theorem wo_X3 : Cond.methodLink RX3 3 objectInit ∈ tb := tb_w 143 (by decide +kernel) rfl
theorem wk_L_10 : Cond.classLink RL 10 RX5 ∈ tb := tb_w 459 (by decide +kernel) rfl
theorem ww_X5 : Cond.instantiable RX5 20 ∈ tb := tb_w 460 (by decide +kernel) rfl
theorem wm_L_12 : Cond.methodLink RL 12 yX5_init ∈ tb := tb_w 461 (by decide +kernel) rfl
theorem wo_X5 : Cond.methodLink RX5 1 objectInit ∈ tb := tb_w 464 (by decide +kernel) rfl
abbrev fs0_0 : List Value := [.null, .null, .int 0]
theorem df_X0 : ∀ j, j < 3 → defaultValue (tyX0 j) = vp_V fs0_0 j
  | 0, _ => rfl
  | 1, _ => rfl
  | 2, _ => rfl
  | j + 3, h => absurd h (by omega)
abbrev fs0_1 : List Value := [.null, .null, .int 0, .int 0, .int 0, .int 0, .int 0, .int 0]
theorem df_X1 : ∀ j, j < 8 → defaultValue (tyX1 j) = vp_V fs0_1 j
  | 0, _ => rfl
  | 1, _ => rfl
  | 2, _ => rfl
  | 3, _ => rfl
  | 4, _ => rfl
  | 5, _ => rfl
  | 6, _ => rfl
  | 7, _ => rfl
  | j + 8, h => absurd h (by omega)
abbrev fs0_2 : List Value := [.null, .null, .int 0]
theorem df_X2 : ∀ j, j < 3 → defaultValue (tyX2 j) = vp_V fs0_2 j
  | 0, _ => rfl
  | 1, _ => rfl
  | 2, _ => rfl
  | j + 3, h => absurd h (by omega)
abbrev fs0_3 : List Value := [.null, .int 0, .int 0]
theorem df_X3 : ∀ j, j < 3 → defaultValue (tyX3 j) = vp_V fs0_3 j
  | 0, _ => rfl
  | 1, _ => rfl
  | 2, _ => rfl
  | j + 3, h => absurd h (by omega)
abbrev fs0_4 : List Value := [.null, .null, .null, .null, .null, .null, .int 0, .int 0, .int 0, .int 0, .int 0]
theorem df_X4 : ∀ j, j < 11 → defaultValue (tyX4 j) = vp_V fs0_4 j
  | 0, _ => rfl
  | 1, _ => rfl
  | 2, _ => rfl
  | 3, _ => rfl
  | 4, _ => rfl
  | 5, _ => rfl
  | 6, _ => rfl
  | 7, _ => rfl
  | 8, _ => rfl
  | 9, _ => rfl
  | 10, _ => rfl
  | j + 11, h => absurd h (by omega)
abbrev fs0_5 : List Value := [.int 0, .int 0, .null, .null, .null, .null, .int 0, .int 0, .int 0, .null, .int 0, .null, .null, .int 0, .int 0, .int 0, .int 0, .null, .null, .null]
theorem df_X5 : ∀ j, j < 20 → defaultValue (tyX5 j) = vp_V fs0_5 j
  | 0, _ => rfl
  | 1, _ => rfl
  | 2, _ => rfl
  | 3, _ => rfl
  | 4, _ => rfl
  | 5, _ => rfl
  | 6, _ => rfl
  | 7, _ => rfl
  | 8, _ => rfl
  | 9, _ => rfl
  | 10, _ => rfl
  | 11, _ => rfl
  | 12, _ => rfl
  | 13, _ => rfl
  | 14, _ => rfl
  | 15, _ => rfl
  | 16, _ => rfl
  | 17, _ => rfl
  | 18, _ => rfl
  | 19, _ => rfl
  | j + 20, h => absurd h (by omega)
