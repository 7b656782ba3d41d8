/-! ===== what every method of the system leans on, and its calls ===== -/
/-- the powers of ten that the class's table holds -/
def gP (j : Nat) : Int64 := lN (10 ^ j)
def gIAE : String := "java/lang/IllegalArgumentException"
def gUOE : String := "java/lang/UnsupportedOperationException"
def gAE : String := "java/lang/ArithmeticException"
def gUp : List String := ["java/lang/RuntimeException", "java/lang/Exception"]
/-- the table words of a throw that a call does not hand on by itself -/
def gNs : List Cond := [.castable "java/lang/IllegalArgumentException" "java/lang/IllegalArgumentException", .castable "java/lang/UnsupportedOperationException" "java/lang/UnsupportedOperationException", .castable "java/lang/ArithmeticException" "java/lang/ArithmeticException", .declares ⟨"java/lang/RuntimeException", "<init>", "()V"⟩, .declares ⟨"java/lang/Exception", "<init>", "()V"⟩, .declares ⟨"java/lang/Throwable", "<init>", "()V"⟩]
theorem gNs_on : ∀ w ∈ gNs, w.onTables = true := by decide +kernel
theorem gNs_warm {s U : State} (hW : s.WarmedH U.vm) : ∀ w ∈ gNs, va_Nw w s → va_Nw w U := by
  intro w hw h
  simp only [gNs, List.mem_cons, List.not_mem_nil, or_false] at hw
  rcases hw with rfl | rfl | rfl | rfl | rfl | rfl
  · exact va_Nw.warmC hW h
  · exact va_Nw.warmC hW h
  · exact va_Nw.warmC hW h
  · exact va_Nw.warmD hW h
  · exact va_Nw.warmD hW h
  · exact va_Nw.warmD hW h
/-- the ground: words, statics of Throwable, the class's table of powers at t; none of it lies in A -/
def gE (t : Nat) (A : Nat → Prop) (U : State) (H : Heap) : Prop :=
  (∀ w ∈ gNs, va_Nw w U) ∧ (va_Nc gUOE gIAE U ∧ va_Nc gAE gIAE U ∧ va_Nc gAE gUOE U) ∧ vx_Zq Bundle.tN "UNASSIGNED_STACK" Bundle.steD A U H ∧ vx_Zq Bundle.tN "SUPPRESSED_SENTINEL" Bundle.listD A U H ∧
  va_Z RX0 "POWERS_OF_TEN" "[J" (.ref t) A U H ∧ va_T .long t 14 (fun j => .long (gP j)) A U H
theorem gE.same {t : Nat} {A : Nat → Prop} {u U : State} {H : Heap} (hvm : u.vm = U.vm) (h : gE t A u H) : gE t A U H := by
  have hal : u.vm.Alike U.vm := by rw [hvm]; exact Vm.Alike.refl _
  obtain ⟨h1, ⟨h2, h3, h4⟩, h5, h6, h7, h8⟩ := h
  exact ⟨fun w hw => va_Nw.same (gNs_on w hw) hvm (h1 w hw), ⟨h2.moved hal, h3.moved hal, h4.moved hal⟩, h5.moved hal, h6.moved hal, h7.moved hal, h8.moved hal⟩
theorem gE.warm {t : Nat} {A : Nat → Prop} {s U : State} {H : Heap} (hW : s.WarmedH U.vm) (h : gE t A s H) : gE t A U H := by
  have hal := hW.alike
  obtain ⟨h1, ⟨h2, h3, h4⟩, h5, h6, h7, h8⟩ := h
  exact ⟨fun w hw => gNs_warm hW w hw (h1 w hw), ⟨h2.moved hal, h3.moved hal, h4.moved hal⟩, h5.moved hal, h6.moved hal, h7.moved hal, h8.moved hal⟩
theorem gE.kept {t : Nat} {A : Nat → Prop} {U : State} {H H1 : Heap} (h : gE t A U H) (hq : ∀ a : Nat, a < H.size → ¬ A a → H1[a]? = H[a]?) : gE t A U H1 := by
  obtain ⟨h1, h2, h5, h6, h7, h8⟩ := h
  exact ⟨h1, h2, h5.kept hq, h6.kept hq, h7.kept hq, h8.kept hq⟩
theorem gE.narrow {t : Nat} {A B : Nat → Prop} {U : State} {H : Heap} (h : gE t A U H) (hAB : ∀ q, B q → A q) : gE t B U H := by
  obtain ⟨h1, h2, h5, h6, h7, h8⟩ := h
  exact ⟨h1, h2, h5.narrow hAB, h6.narrow hAB, h7.narrow hAB, h8.narrow hAB⟩
/-- the addresses that were not there yet -/
def gN (sz : Nat) : Nat → Prop := fun q => sz ≤ q
theorem gS_wide {A B : Nat → Prop} {H0 H : Heap} {locs : List Loc} (h : va_S A H0 H locs) (hAB : ∀ q, A q → B q) : va_S B H0 H locs := ⟨h.1, fun q h1 h2 => h.2.1 q h1 (fun z => h2 (hAB q z)), fun q hq => hAB _ (h.2.2 q hq)⟩
theorem g_keep {D : va_G} {cl : List vw_C} {ws : va_W} {H H1 : Heap} (hP : va_P D cl ws H) (hk : ∀ q : Nat, q < H.size → H1[q]? = H[q]?) : va_P D cl ws H1 := hP.kept (fun k x hx => hk x.1 (hP k x hx).lt)
theorem g_lt {q sz : Nat} (h : q < sz) : ¬ gN sz q := Nat.not_le.mpr h
/-- the words of a callee among a caller's -/
theorem gw_1 {Ts : List Cond} {d : Cond} (hs : ∀ w ∈ gws, w ∈ Ts) (hd : d ∈ gws) : GoodIn Ts (d :: gws) := by
  intro w h
  rcases List.mem_cons.mp h with rfl | h
  · exact ⟨hs _ hd, good_of_word (gws_good hd)⟩
  · exact ⟨hs _ h, good_of_word (gws_good h)⟩
theorem gw_S {Ts : List Cond} {d : Cond} {own : String} {idx : Nat} {y : MethodName} (hs : ∀ w ∈ gws, w ∈ Ts) (h1 : Cond.methodLink own idx y ∈ gws) (h2 : Cond.static y ∈ gws) (h3 : Cond.initialized y.cls ∈ gws) (hd : d ∈ gws) : GoodIn Ts (va_wsS own idx y (d :: gws)) := by
  unfold va_wsS
  exact goodIn_app (fun w h => by
    simp only [List.mem_cons, List.not_mem_nil, or_false] at h
    rcases h with rfl | rfl | rfl
    · exact ⟨hs _ h1, good_of_word (gws_good h1)⟩
    · exact ⟨hs _ h2, good_of_word (gws_good h2)⟩
    · exact ⟨hs _ h3, good_of_word (gws_good h3)⟩) (gw_1 hs hd)
theorem gw_V {Ts : List Cond} {d : Cond} {own C : String} {idx : Nat} {y : MethodName} (hs : ∀ w ∈ gws, w ∈ Ts) (h1 : Cond.methodLink own idx y ∈ gws) (h2 : Cond.instanceMethod y ∈ gws) (h3 : Cond.selects C y y ∈ gws) (h4 : Cond.initialized C ∈ gws) (hd : d ∈ gws) : GoodIn Ts (wsV own idx C y (d :: gws)) := by
  unfold wsV
  exact goodIn_app (fun w h => by
    simp only [List.mem_cons, List.not_mem_nil, or_false] at h
    rcases h with rfl | rfl | rfl | rfl
    · exact ⟨hs _ h1, good_of_word (gws_good h1)⟩
    · exact ⟨hs _ h2, good_of_word (gws_good h2)⟩
    · exact ⟨hs _ h3, good_of_word (gws_good h3)⟩
    · exact ⟨hs _ h4, good_of_word (gws_good h4)⟩) (gw_1 hs hd)
/-- a static method that touches nothing old: what it asks, what it gives -/
abbrev gPre (t sz : Nat) (As : List Value) : Array Value → State → Prop := va_Pc As (fun U => U.heap.size = sz ∧ gE t (gN sz) U U.heap)
theorem gPre_blind (t sz : Nat) (As : List Value) : FrameBlind (gPre t sz As) := fun _ U _ _ q => ⟨q.1, q.2.1, (show gE t (gN sz) _ U.heap from gE.same (u := U) rfl q.2.2)⟩
def gSl (l : Launch) (y : MethodName) (b : ByteArray) (n : Nat) (rm : Room) (t : Nat) (As : List Value) (post : Int64 → Prop) : Prop :=
  ∀ sz, Met l y (Cond.code y b n (some .long) :: gws) rm (gPre t sz As) (va_Ql (fun r (_ : Unit) => post r) (fun _ t' => t'.heap.size = sz) (gN sz)) rm.cells rm.slots (gN sz)
def gSi (l : Launch) (y : MethodName) (b : ByteArray) (n : Nat) (ty : FieldType) (rm : Room) (t : Nat) (As : List Value) (post : Int32 → Prop) : Prop :=
  ∀ sz, Met l y (Cond.code y b n (some ty) :: gws) rm (gPre t sz As) (va_Qi (fun r (_ : Unit) => post r) (fun _ t' => t'.heap.size = sz) (gN sz)) rm.cells rm.slots (gN sz)
/-- the same, and it may throw: xp of the class's name -/
abbrev gXC (xp : String → Prop) (sz : Nat) : String → State → State → Prop := vx_X (fun _ : Unit => True) (fun E _ _ => xp E) (gN sz)
def gSlX (l : Launch) (y : MethodName) (b : ByteArray) (n : Nat) (rm : Room) (t : Nat) (As : List Value) (post : Int64 → Prop) (xp : String → Prop) : Prop :=
  ∀ sz, vx_Met l y (Cond.code y b n (some .long) :: gws) rm (gPre t sz As) (va_Ql (fun r (_ : Unit) => post r) (fun _ t' => t'.heap.size = sz) (gN sz)) (gXC xp sz) rm.cells rm.slots (gN sz)
theorem g_heap {H H1 : Heap} (hz : H1.size = H.size) (hk : ∀ q : Nat, q < H.size → H1[q]? = H[q]?) : H1 = H := by
  refine Array.ext_getElem? fun q => ?_
  rcases Nat.lt_or_ge q H.size with h | h
  · exact hk q h
  · rw [Array.getElem?_eq_none h, Array.getElem?_eq_none (by omega)]
/-- a call that left the heap as it was counts for nothing -/
theorem g_back {p : Program} {l : Launch} {e : Env} {R : Room} {s : State} {m : MethodId} {args : Array Value} {below : List Frame} {meth : Method} {c : Code} {T T' : State} {locs locs' : List Loc} {cells slots cells' slots' : Nat} (X : Stand p l e R s m args below meth c T locs cells slots) (X' : Stand p l e R s m args below meth c T' locs' cells' slots') (h : T'.heap = T.heap) : Stand p l e R s m args below meth c T' locs cells slots := by
  obtain ⟨-, b2, b3, -, b5, b6⟩ := X.same
  obtain ⟨a1, -, -, a4, -, -⟩ := X'.same
  have e0 : (T.setVm s.vm).heap = (T'.setVm s.vm).heap := h.symm
  rw [e0] at b2 b3 b5 b6
  exact { X' with same := ⟨a1, b2, b3, a4, b5, b6⟩ }
section GC
variable {p : Program} {l : Launch} {e : Env} {R : Room} {s : State} {m : MethodId} {args : Array Value} {below : List Frame} {meth : Method} {c : Code} {H : Heap} {locs : List Loc} {cells slots : Nat} {Q : State → Prop}
variable {cc : ByteArray} {pc : Nat} {ls : Array Slot} {rest st0 : List Value} {A0 : Nat → Prop} {Ts : List Cond} {own : String} {nL : Nat}
variable {y : MethodName} {b : ByteArray} {n index t : Nat} {rm : Room} {As : List Value}
theorem g_pre (hE : gE t A0 s s.heap) (hS : va_S A0 s.heap H locs) (hA : ∀ q, s.heap.size ≤ q → A0 q) : PreS s H (gPre t H.size As) As :=
  ⟨gPre_blind t H.size As, fun U hU hW => ⟨rfl, by rw [hU], by rw [hU]; exact ((hE.kept hS.2.1).narrow (fun q h => hA q (Nat.le_trans hS.1 h))).warm hW⟩⟩
theorem g_free (hS : va_S A0 s.heap H locs) (hA : ∀ q, s.heap.size ≤ q → A0 q) : ∀ q, gN H.size q → A0 q := fun q h => hA q (Nat.le_trans hS.1 h)
theorem g_callSl {post : Int64 → Prop} (S : CallFix p m c cc nL s args Ts own) (hs : ∀ w ∈ gws, w ∈ Ts) (hM : gSl l y b n rm t As post)
    (h1 : Cond.methodLink own index y ∈ gws) (h2 : Cond.static y ∈ gws) (h3 : Cond.initialized y.cls ∈ gws) (h4 : Cond.code y b n (some .long) ∈ gws)
    (hd : y.cls ≠ "java/lang/invoke/MethodHandle" ∧ y.cls ≠ "java/lang/invoke/VarHandle" ∧ (parseMethodDescriptor y.desc).map (fun d => d.parameters.length) = some As.length)
    (hR : rm.frames + 1 ≤ R.frames ∧ 8 + (n + 11) + rm.locals ≤ R.locals) (hE : gE t A0 s s.heap) (hS : va_S A0 s.heap H locs) (hA : ∀ q, s.heap.size ≤ q → A0 q) (hsize : ls.size = nL)
    (hstack : st0 = As.reverse ++ rest) (hW : (rest.map fun v => v.category).sum ≤ 8) (hf : cells + rm.cells ≤ R.cells ∧ slots + rm.slots ≤ R.slots) (hdg : decode cc pc = .ok (.invokestatic index, 3))
    (kk : ∀ r : Int64, post r → W p l e R s m args below meth c H locs cells slots Q (F0 m (pc + 3) ls (.long r :: rest))) :
    W p l e R s m args below meth c H locs cells slots Q (F0 m pc ls st0) := by
  intro T hT X
  obtain ⟨v, st₀, t', T', L, h0, X', hL, e1, e2, ⟨⟨r, u, hv, hp, hb⟩, hz, hk⟩, st⟩ := (va_runS (As := As) (rest := rest) (g := F0 m pc ls st0) S (hM H.size) (va_cwS As.length S.2.2.2.2 (gw_S hs h1 h2 h3 h4) rfl rfl rfl hd hR) (g_pre hE hS hA) rfl rfl hsize hstack (lv_room hW) hdg hf) T hT X
  cases hv
  rw [h0] at hz hk
  have hh : T'.heap = H := g_heap (by rw [e1]; exact hb) (fun q hq => by rw [e1]; exact hk q hq (g_lt hq))
  obtain ⟨t2, a1, b1⟩ := kk r hp T' hh (g_back X X' (by rw [hh, hT]))
  exact ⟨t2, st t2 a1, b1⟩
theorem g_callSi {post : Int32 → Prop} {ty : FieldType} (S : CallFix p m c cc nL s args Ts own) (hs : ∀ w ∈ gws, w ∈ Ts) (hM : gSi l y b n ty rm t As post)
    (h1 : Cond.methodLink own index y ∈ gws) (h2 : Cond.static y ∈ gws) (h3 : Cond.initialized y.cls ∈ gws) (h4 : Cond.code y b n (some ty) ∈ gws)
    (hd : y.cls ≠ "java/lang/invoke/MethodHandle" ∧ y.cls ≠ "java/lang/invoke/VarHandle" ∧ (parseMethodDescriptor y.desc).map (fun d => d.parameters.length) = some As.length)
    (hR : rm.frames + 1 ≤ R.frames ∧ 8 + (n + 11) + rm.locals ≤ R.locals) (hE : gE t A0 s s.heap) (hS : va_S A0 s.heap H locs) (hA : ∀ q, s.heap.size ≤ q → A0 q) (hsize : ls.size = nL)
    (hstack : st0 = As.reverse ++ rest) (hW : (rest.map fun v => v.category).sum ≤ 8) (hf : cells + rm.cells ≤ R.cells ∧ slots + rm.slots ≤ R.slots) (hdg : decode cc pc = .ok (.invokestatic index, 3))
    (kk : ∀ r : Int32, post r → W p l e R s m args below meth c H locs cells slots Q (F0 m (pc + 3) ls (.int r :: rest))) :
    W p l e R s m args below meth c H locs cells slots Q (F0 m pc ls st0) := by
  intro T hT X
  obtain ⟨v, st₀, t', T', L, h0, X', hL, e1, e2, ⟨⟨r, u, hv, hp, hb⟩, hz, hk⟩, st⟩ := (va_runS (As := As) (rest := rest) (g := F0 m pc ls st0) S (hM H.size) (va_cwS As.length S.2.2.2.2 (gw_S hs h1 h2 h3 h4) rfl rfl rfl hd hR) (g_pre hE hS hA) rfl rfl hsize hstack (lv_room hW) hdg hf) T hT X
  cases hv
  rw [h0] at hz hk
  have hh : T'.heap = H := g_heap (by rw [e1]; exact hb) (fun q hq => by rw [e1]; exact hk q hq (g_lt hq))
  obtain ⟨t2, a1, b1⟩ := kk r hp T' hh (g_back X X' (by rw [hh, hT]))
  exact ⟨t2, st t2 a1, b1⟩
/-- a call that may throw; what is thrown goes on to the caller -/
theorem g_callSlX {post : Int64 → Prop} {xp : String → Prop} {Qc : Array Value → State → Outcome → State → Prop} {XC : String → State → State → Prop} {mc ms : Nat} {free : Addr → Prop} (S : CallFix p m c cc nL s args Ts own) (hs : ∀ w ∈ gws, w ∈ Ts) (hM : gSlX l y b n rm t As post xp)
    (h1 : Cond.methodLink own index y ∈ gws) (h2 : Cond.static y ∈ gws) (h3 : Cond.initialized y.cls ∈ gws) (h4 : Cond.code y b n (some .long) ∈ gws)
    (hd : y.cls ≠ "java/lang/invoke/MethodHandle" ∧ y.cls ≠ "java/lang/invoke/VarHandle" ∧ (parseMethodDescriptor y.desc).map (fun d => d.parameters.length) = some As.length)
    (hR : rm.frames + 1 ≤ R.frames ∧ 8 + (n + 11) + rm.locals ≤ R.locals) (hE : gE t A0 s s.heap) (hS : va_S A0 s.heap H locs) (hA : ∀ q, s.heap.size ≤ q → A0 q) (hsize : ls.size = nL)
    (hstack : st0 = As.reverse ++ rest) (hW : (rest.map fun v => v.category).sum ≤ 8) (hf : cells + rm.cells ≤ R.cells ∧ slots + rm.slots ≤ R.slots) (hdg : decode cc pc = .ok (.invokestatic index, 3))
    (hout : ∀ x ∈ c.exceptionTable.toList, False) (hlocks : meth.locks = false) (hfr : ∀ q, A0 q → free q) (hmc : cells + rm.cells ≤ mc) (hms : slots + rm.slots ≤ ms)
    (kx : ∀ (E : String), xp E → ∀ t' : State, va_F A0 s t' → s.vm.Alike t'.vm → (∀ q : Nat, q < H.size → t'.heap[q]? = H[q]?) → XC E s t')
    (kk : ∀ r : Int64, post r → W p l e R s m args below meth c H locs cells slots (vx_MQ below Qc XC args s mc ms free) (F0 m (pc + 3) ls (.long r :: rest))) :
    W p l e R s m args below meth c H locs cells slots (vx_MQ below Qc XC args s mc ms free) (F0 m pc ls st0) := by
  intro T hT X
  rcases (vx_runS (As := As) (rest := rest) (g := F0 m pc ls st0) S (hM H.size) (va_cwS As.length S.2.2.2.2 (gw_S hs h1 h2 h3 h4) rfl rfl rfl hd hR) (g_pre hE hS hA) rfl rfl hsize hstack (lv_room hW) hdg hf) T hT X with ⟨v, st₀, t', T', L, h0, X', hL, e1, e2, ⟨⟨r, u, hv, hp, hb⟩, hz, hk⟩, st⟩ | ⟨q, st₀, t', T', L, E, ce, h0, X', hL, e1, e2, ⟨u, -, hxp, hF⟩, hce, hcv, hcl, st⟩
  · cases hv
    rw [h0] at hz hk
    have hh : T'.heap = H := g_heap (by rw [e1]; exact hb) (fun q hq => by rw [e1]; exact hk q hq (g_lt hq))
    obtain ⟨t2, a1, b1⟩ := kk r hp T' hh (g_back X X' (by rw [hh, hT]))
    exact ⟨t2, st t2 a1, b1⟩
  · obtain ⟨k1, k2, k3⟩ := vx_keep h0 e1 hS (fun q _ h => g_free hS hA q h) (g_free hS hA) hL hF
    obtain ⟨t2, a1, b1⟩ := vx_out (Qc := Qc) (XC := XC) (mc := mc) (ms := ms) (free := free) (ls := ls) (rest := rest) (pc := pc) (fun x hx => (hout x hx).elim) hlocks (by rw [e1]; exact hce) hcv hcl
      (fun t2 ht2 hal2 => kx E hxp t2 (k3.F ht2) hal2 (fun q hq => by rw [ht2]; exact k2 q hq (g_lt hq))) (fun z hz => hfr _ (k3.2.2 z hz)) hmc hms T' rfl X'
    exact ⟨t2, st.trans a1, b1⟩
/-- 'throw new E()' -/
theorem g_throw {Qc : Array Value → State → Outcome → State → Prop} {XC : String → State → State → Prop} {mc ms ik ic : Nat} {free : Addr → Prop} {cls : String} (S : CallFix p m c cc nL s args Ts own) (hs : ∀ w ∈ gws, w ∈ Ts) (hl : l.stackTraces = false)
    (hcls : Bundle.fit cls = true) (hk : Cond.classLink own ik cls ∈ gws) (hini : Cond.initialized cls ∈ gws) (hw1 : ∀ w ∈ (vx_at0 own ic cls gUp).filter goodWord, w ∈ gws) (hw2 : ∀ w ∈ (vx_at0 own ic cls gUp).filter (fun w => !goodWord w), w ∈ gNs)
    (hgood : ∀ w ∈ Cond.classLink own ik cls :: Cond.initialized cls :: vx_at0 own ic cls gUp, vx_ot w = true)
    (hE : gE t A0 s s.heap) (hS : va_S A0 s.heap H locs) (hsize : ls.size = nL)
    (d0 : decode cc pc = .ok (.new ik, 3)) (d3 : decode cc (pc + 3) = .ok (.dup, 1)) (d4 : decode cc (pc + 4) = .ok (.invokespecial ic, 3)) (d7 : decode cc (pc + 7) = .ok (.athrow, 1))
    (hout : ∀ x ∈ c.exceptionTable.toList, False) (hlocks : meth.locks = false) (hRf : 5 < R.frames) (hRl : (rest.map fun v => v.category).sum + 81 ≤ R.locals) (hRc : cells + 1 ≤ R.cells) (hRs : slots + 6 ≤ R.slots)
    (hfr : ∀ q, A0 q → free q) (hmc : cells + 1 ≤ mc) (hms : slots + 6 ≤ ms)
    (kx : ∀ t' : State, va_F A0 s t' → s.vm.Alike t'.vm → (∀ q : Nat, q < H.size → t'.heap[q]? = H[q]?) → XC cls s t') :
    W p l e R s m args below meth c H locs cells slots (vx_MQ below Qc XC args s mc ms free) (F0 m pc ls rest) := by
  obtain ⟨hx, hb, hml, hown, hts⟩ := S
  obtain ⟨g1, -, g3, g4, -, -⟩ := hE
  refine vx_throw0 (names := gUp) hx hb hl hown hcls (by decide +kernel) (hts _ (hs _ hk)) (hts _ (hs _ hini)) (vx_hat (B := gNs) (fun w hw => hts _ (hs _ (hw1 w hw))) hw2 (fun w hw => va_Nw.use (gNs_on w hw) (g1 w hw))) hgood g3 g4 hS (hsize.trans hml.symm) d0 d3 d4 d7 (fun x hx => (hout x hx).elim) hRf hRl hRc hRs hlocks
    (fun t' hal hz hk => kx t' ⟨Nat.le_trans hS.1 hz, fun q h1 h2 => (hk q (Nat.lt_of_lt_of_le h1 hS.1)).trans (hS.2.1 q h1 h2)⟩ hal hk) (fun z hz => hfr _ (hS.2.2 z hz)) hmc hms
/-- the ends of the static ones -/
theorem g_lret {post : Int64 → Prop} {v : Int64} (hx : p.tables.exec = Jvm.exec) (hb : c.code = cc) (hr : meth.sig.returnType = some .long) (hlocks : meth.locks = false) (hq : post v) (hdg : decode cc pc = .ok (.lreturn, 1)) :
    W p l e R s m args below meth c s.heap [] cells slots (MQ below (va_Ql (fun r (_ : Unit) => post r) (fun _ t' => t'.heap.size = s.heap.size) (gN s.heap.size)) args s cells slots (gN s.heap.size)) (F0 m pc ls [.long v]) :=
  W.lret hx hb hr (fun t ht _ => ⟨⟨v, (), rfl, hq, congrArg Array.size ht⟩, (va_S.rf (A := gN s.heap.size)).F ht⟩) (fun _ h => by cases h) hdg hlocks
theorem g_iret {post : Int32 → Prop} {v : Int32} (hx : p.tables.exec = Jvm.exec) (hb : c.code = cc) (hr : meth.sig.returnType = some .int) (hlocks : meth.locks = false) (hq : post v) (hdg : decode cc pc = .ok (.ireturn, 1)) :
    W p l e R s m args below meth c s.heap [] cells slots (MQ below (va_Qi (fun r (_ : Unit) => post r) (fun _ t' => t'.heap.size = s.heap.size) (gN s.heap.size)) args s cells slots (gN s.heap.size)) (F0 m pc ls [.int v]) :=
  W.iret hx hb hr (fun t ht _ => ⟨⟨v, (), rfl, hq, congrArg Array.size ht⟩, (va_S.rf (A := gN s.heap.size)).F ht⟩) (fun _ h => by cases h) hdg hlocks
theorem g_zret {post : Int32 → Prop} {v : Int32} (hx : p.tables.exec = Jvm.exec) (hb : c.code = cc) (hr : meth.sig.returnType = some .boolean) (hn : narrow .boolean (.int v) = .int v) (hlocks : meth.locks = false) (hq : post v) (hdg : decode cc pc = .ok (.ireturn, 1)) :
    W p l e R s m args below meth c s.heap [] cells slots (MQ below (va_Qi (fun r (_ : Unit) => post r) (fun _ t' => t'.heap.size = s.heap.size) (gN s.heap.size)) args s cells slots (gN s.heap.size)) (F0 m pc ls [.int v]) :=
  W.zret hx hb hr hn (fun t ht _ => ⟨⟨v, (), rfl, hq, congrArg Array.size ht⟩, (va_S.rf (A := gN s.heap.size)).F ht⟩) (fun _ h => by cases h) hdg hlocks
/-- two longs compared, and the jump on it -/
theorem g_lc_lt (hx : p.tables.exec = Jvm.exec) (hb : c.code = cc) {x y : Int64} {off : Int} {tgt : Nat} (d1 : decode cc pc = .ok (.lcmp, 1)) (d2 : decode cc (pc + 1) = .ok (.ifCond .lt off, 3)) (ht : ((pc + 1 : Nat) : Int) + off = (tgt : Int)) (k1 : x < y → W p l e R s m args below meth c H locs cells slots Q (F0 m tgt ls rest)) (k2 : ¬ x < y → W p l e R s m args below meth c H locs cells slots Q (F0 m (pc + 4) ls rest)) : W p l e R s m args below meth c H locs cells slots Q (F0 m pc ls (.long y :: .long x :: rest)) :=
  W.lcmp hx hb d1 (lv_if_lt hx hb d2 ht (fun h => k1 ((lg_cmp_lt x y).mp h)) (fun h => k2 (fun q => h ((lg_cmp_lt x y).mpr q))))
theorem g_lc_ge (hx : p.tables.exec = Jvm.exec) (hb : c.code = cc) {x y : Int64} {off : Int} {tgt : Nat} (d1 : decode cc pc = .ok (.lcmp, 1)) (d2 : decode cc (pc + 1) = .ok (.ifCond .ge off, 3)) (ht : ((pc + 1 : Nat) : Int) + off = (tgt : Int)) (k1 : y ≤ x → W p l e R s m args below meth c H locs cells slots Q (F0 m tgt ls rest)) (k2 : ¬ y ≤ x → W p l e R s m args below meth c H locs cells slots Q (F0 m (pc + 4) ls rest)) : W p l e R s m args below meth c H locs cells slots Q (F0 m pc ls (.long y :: .long x :: rest)) :=
  W.lcmp hx hb d1 (lv_if_ge hx hb d2 ht (fun h => k1 ((lg_cmp_ge x y).mp h)) (fun h => k2 (fun q => h ((lg_cmp_ge x y).mpr q))))
theorem g_lc_gt (hx : p.tables.exec = Jvm.exec) (hb : c.code = cc) {x y : Int64} {off : Int} {tgt : Nat} (d1 : decode cc pc = .ok (.lcmp, 1)) (d2 : decode cc (pc + 1) = .ok (.ifCond .gt off, 3)) (ht : ((pc + 1 : Nat) : Int) + off = (tgt : Int)) (k1 : y < x → W p l e R s m args below meth c H locs cells slots Q (F0 m tgt ls rest)) (k2 : ¬ y < x → W p l e R s m args below meth c H locs cells slots Q (F0 m (pc + 4) ls rest)) : W p l e R s m args below meth c H locs cells slots Q (F0 m pc ls (.long y :: .long x :: rest)) :=
  W.lcmp hx hb d1 (lv_if_gt hx hb d2 ht (fun h => k1 ((lg_cmp_gt x y).mp h)) (fun h => k2 (fun q => h ((lg_cmp_gt x y).mpr q))))
theorem g_lc_le (hx : p.tables.exec = Jvm.exec) (hb : c.code = cc) {x y : Int64} {off : Int} {tgt : Nat} (d1 : decode cc pc = .ok (.lcmp, 1)) (d2 : decode cc (pc + 1) = .ok (.ifCond .le off, 3)) (ht : ((pc + 1 : Nat) : Int) + off = (tgt : Int)) (k1 : x ≤ y → W p l e R s m args below meth c H locs cells slots Q (F0 m tgt ls rest)) (k2 : ¬ x ≤ y → W p l e R s m args below meth c H locs cells slots Q (F0 m (pc + 4) ls rest)) : W p l e R s m args below meth c H locs cells slots Q (F0 m pc ls (.long y :: .long x :: rest)) :=
  W.lcmp hx hb d1 (lv_if_le hx hb d2 ht (fun h => k1 ((lg_cmp_le x y).mp h)) (fun h => k2 (fun q => h ((lg_cmp_le x y).mpr q))))
theorem g_lc_eq (hx : p.tables.exec = Jvm.exec) (hb : c.code = cc) {x y : Int64} {off : Int} {tgt : Nat} (d1 : decode cc pc = .ok (.lcmp, 1)) (d2 : decode cc (pc + 1) = .ok (.ifCond .eq off, 3)) (ht : ((pc + 1 : Nat) : Int) + off = (tgt : Int)) (k1 : x = y → W p l e R s m args below meth c H locs cells slots Q (F0 m tgt ls rest)) (k2 : ¬ x = y → W p l e R s m args below meth c H locs cells slots Q (F0 m (pc + 4) ls rest)) : W p l e R s m args below meth c H locs cells slots Q (F0 m pc ls (.long y :: .long x :: rest)) :=
  W.lcmp hx hb d1 (lv_if_eq hx hb d2 ht (fun h => k1 ((lg_cmp_eq x y).mp h)) (fun h => k2 (fun q => h ((lg_cmp_eq x y).mpr q))))
theorem g_lc_ne (hx : p.tables.exec = Jvm.exec) (hb : c.code = cc) {x y : Int64} {off : Int} {tgt : Nat} (d1 : decode cc pc = .ok (.lcmp, 1)) (d2 : decode cc (pc + 1) = .ok (.ifCond .ne off, 3)) (ht : ((pc + 1 : Nat) : Int) + off = (tgt : Int)) (k1 : ¬ x = y → W p l e R s m args below meth c H locs cells slots Q (F0 m tgt ls rest)) (k2 : x = y → W p l e R s m args below meth c H locs cells slots Q (F0 m (pc + 4) ls rest)) : W p l e R s m args below meth c H locs cells slots Q (F0 m pc ls (.long y :: .long x :: rest)) :=
  W.lcmp hx hb d1 (lv_if_ne hx hb d2 ht (fun h => k1 (fun q => h ((lg_cmp_eq x y).mpr q))) (fun h => k2 ((lg_cmp_eq x y).mp h)))
end GC
/-- how a static one is opened -/
theorem g_openl {l : Launch} {y : MethodName} {b : ByteArray} {n : Nat} {rm : Room} {t : Nat} {As : List Value} {post : Int64 → Prop} (hy : plainFor y = true) (hn : (lg_sl As).length ≤ n)
    (body : ∀ (p : Program) (e : Env) (s : State) (m : MethodId) (below : List Frame) (meth : Method) (c : Code) (ls : Array Slot), CallFix p m c b n s As.toArray (Cond.code y b n (some .long) :: gws) y.cls → meth.sig.returnType = some .long → meth.locks = false → gE t (gN s.heap.size) s s.heap → lv_has ls n (lv_args 0 As) →
      W p l e rm s m As.toArray below meth c s.heap [] 0 0 (MQ below (va_Ql (fun r (_ : Unit) => post r) (fun _ t' => t'.heap.size = s.heap.size) (gN s.heap.size)) As.toArray s rm.cells rm.slots (gN s.heap.size)) (F0 m 0 ls [])) : gSl l y b n rm t As post := by
  intro sz
  refine va_MetF (cc := b) (maxL := n) (ret := some .long) hy rfl ?_
  intro p e s m args below meth c s₁ B hml hv
  obtain ⟨rfl, hsz, hE⟩ := hv
  subst hsz
  rw [lg_entry_eq]
  exact body p e s m below meth c _ ⟨B.exec, B.bytes, hml, findClass_of_methodNamed B.named, atoms_spec (ws := Cond.code y b n (some .long) :: gws) B.pre⟩ B.returns B.notSynchronized hE (lv_entry As hn)
theorem g_openi {l : Launch} {y : MethodName} {b : ByteArray} {n : Nat} {ty : FieldType} {rm : Room} {t : Nat} {As : List Value} {post : Int32 → Prop} (hy : plainName y.cls = true) (hn : (lg_sl As).length ≤ n)
    (body : ∀ (p : Program) (e : Env) (s : State) (m : MethodId) (below : List Frame) (meth : Method) (c : Code) (ls : Array Slot), CallFix p m c b n s As.toArray (Cond.code y b n (some ty) :: gws) y.cls → meth.sig.returnType = some ty → meth.locks = false → gE t (gN s.heap.size) s s.heap → lv_has ls n (lv_args 0 As) →
      W p l e rm s m As.toArray below meth c s.heap [] 0 0 (MQ below (va_Qi (fun r (_ : Unit) => post r) (fun _ t' => t'.heap.size = s.heap.size) (gN s.heap.size)) As.toArray s rm.cells rm.slots (gN s.heap.size)) (F0 m 0 ls [])) : gSi l y b n ty rm t As post := by
  intro sz
  refine Met.ofW (cc := b) (maxL := n) (ret := some ty) hy rfl ?_
  intro p e s m args below meth c s₁ B hml hv
  obtain ⟨rfl, hsz, hE⟩ := hv
  subst hsz
  rw [lg_entry_eq]
  exact body p e s m below meth c _ ⟨B.exec, B.bytes, hml, findClass_of_methodNamed B.named, atoms_spec (ws := Cond.code y b n (some ty) :: gws) B.pre⟩ B.returns B.notSynchronized hE (lv_entry As hn)
theorem g_openX {l : Launch} {y : MethodName} {b : ByteArray} {n : Nat} {rm : Room} {t : Nat} {As : List Value} {post : Int64 → Prop} {xp : String → Prop} (hy : plainName y.cls = true) (hn : (lg_sl As).length ≤ n)
    (body : ∀ (p : Program) (e : Env) (s : State) (m : MethodId) (below : List Frame) (meth : Method) (c : Code) (ls : Array Slot), CallFix p m c b n s As.toArray (Cond.code y b n (some .long) :: gws) y.cls → meth.sig.returnType = some .long → meth.locks = false → (∀ x ∈ c.exceptionTable.toList, False) → gE t (gN s.heap.size) s s.heap → lv_has ls n (lv_args 0 As) →
      W p l e rm s m As.toArray below meth c s.heap [] 0 0 (vx_MQ below (va_Ql (fun r (_ : Unit) => post r) (fun _ t' => t'.heap.size = s.heap.size) (gN s.heap.size)) (gXC xp s.heap.size) As.toArray s rm.cells rm.slots (gN s.heap.size)) (F0 m 0 ls [])) : gSlX l y b n rm t As post xp := by
  intro sz
  refine vx_ofW (cc := b) (maxL := n) (ret := some .long) hy rfl ?_
  intro p e s m args below meth c s₁ B hml hout hv
  obtain ⟨rfl, hsz, hE⟩ := hv
  subst hsz
  rw [lg_entry_eq]
  exact body p e s m below meth c _ ⟨B.exec, B.bytes, hml, findClass_of_methodNamed B.named, atoms_spec (ws := Cond.code y b n (some .long) :: gws) B.pre⟩ B.returns B.notSynchronized hout hE (lv_entry As hn)
set_option maxRecDepth 20000 in
theorem gt_IAE1 : ∀ w ∈ (vx_at0 RX0 23 gIAE gUp).filter goodWord, w ∈ gws := by decide +kernel
theorem gt_IAE2 : ∀ w ∈ (vx_at0 RX0 23 gIAE gUp).filter (fun w => !goodWord w), w ∈ gNs := by decide +kernel
theorem gt_IAE3 : ∀ w ∈ Cond.classLink RX0 21 gIAE :: Cond.initialized gIAE :: vx_at0 RX0 23 gIAE gUp, vx_ot w = true := by decide +kernel
set_option maxRecDepth 20000 in
theorem gt_UOE1 : ∀ w ∈ (vx_at0 RX0 56 gUOE gUp).filter goodWord, w ∈ gws := by decide +kernel
theorem gt_UOE2 : ∀ w ∈ (vx_at0 RX0 56 gUOE gUp).filter (fun w => !goodWord w), w ∈ gNs := by decide +kernel
theorem gt_UOE3 : ∀ w ∈ Cond.classLink RX0 54 gUOE :: Cond.initialized gUOE :: vx_at0 RX0 56 gUOE gUp, vx_ot w = true := by decide +kernel
set_option maxRecDepth 20000 in
theorem gt_AE1 : ∀ w ∈ (vx_at0 RX0 53 gAE gUp).filter goodWord, w ∈ gws := by decide +kernel
theorem gt_AE2 : ∀ w ∈ (vx_at0 RX0 53 gAE gUp).filter (fun w => !goodWord w), w ∈ gNs := by decide +kernel
theorem gt_AE3 : ∀ w ∈ Cond.classLink RX0 51 gAE :: Cond.initialized gAE :: vx_at0 RX0 53 gAE gUp, vx_ot w = true := by decide +kernel
