/-! ===== the reference's object: its cells, its contracts ===== -/
abbrev mS : Type := Int32 × (Nat → Int64) × (Nat → Int32)
/-- the reference: its object, the registers, the printed bytes -/
abbrev wM (m0 m1 m2 : Nat) (cJ cI : ClassId) (u : mS) : va_W := [(m0, .inr (1, [.int u.1, .ref m1, .ref m2])), (m1, .inl (cJ, 8, .inr (.inl u.2.1))), (m2, .inl (cI, 24, .inl u.2.2))]
abbrev gMPre (t : Nat) (D : va_G) (m0 m1 m2 : Nat) (cJ cI : ClassId) (u : mS) (sz : Nat) (As : List Value) : Array Value → State → Prop :=
  va_Pc (.ref m0 :: As) (fun U => U.heap.size = sz ∧ gE t (va_A (wM m0 m1 m2 cJ cI u) sz) U U.heap ∧ va_P D vwCl (wM m0 m1 m2 cJ cI u) U.heap ∧ va_K D vwCl [(cJ, .long), (cI, .int)] U ∧ va_D (fun _ => True) (wM m0 m1 m2 cJ cI u))
theorem gMPre_blind (t : Nat) (D : va_G) (m0 m1 m2 : Nat) (cJ cI : ClassId) (u : mS) (sz : Nat) (As : List Value) : FrameBlind (gMPre t D m0 m1 m2 cJ cI u sz As) := fun a U g mk q =>
  ⟨q.1, q.2.1, (show gE t (va_A (wM m0 m1 m2 cJ cI u) sz) _ U.heap from gE.same (u := U) rfl q.2.2.1), q.2.2.2.1, va_K.moved (u := U) (U := U.calling g mk a) (Vm.Alike.refl U.vm) q.2.2.2.2.1, q.2.2.2.2.2⟩
abbrev gMB (D : va_G) (m0 m1 m2 : Nat) (cJ cI : ClassId) (A : Nat → Prop) : mS → State → Prop := fun u' t' => va_P D vwCl (wM m0 m1 m2 cJ cI u') t'.heap ∧ va_K D vwCl [(cJ, .long), (cI, .int)] t' ∧ va_D A (wM m0 m1 m2 cJ cI u')
def gMl (l : Launch) (y : MethodName) (b : ByteArray) (n : Nat) (rm : Room) (t : Nat) (D : va_G) (m0 m1 m2 : Nat) (cJ cI : ClassId) (u : mS) (As : List Value) (post : Int64 → mS → Prop) : Prop :=
  ∀ sz, Met l y (Cond.code y b n (some .long) :: gws) rm (gMPre t D m0 m1 m2 cJ cI u sz As) (va_Ql post (gMB D m0 m1 m2 cJ cI (va_A (wM m0 m1 m2 cJ cI u) sz)) (va_A (wM m0 m1 m2 cJ cI u) sz)) rm.cells rm.slots (va_A (wM m0 m1 m2 cJ cI u) sz)
def gMi (l : Launch) (y : MethodName) (b : ByteArray) (n : Nat) (rm : Room) (t : Nat) (D : va_G) (m0 m1 m2 : Nat) (cJ cI : ClassId) (u : mS) (As : List Value) (post : Int32 → mS → Prop) : Prop :=
  ∀ sz, Met l y (Cond.code y b n (some .int) :: gws) rm (gMPre t D m0 m1 m2 cJ cI u sz As) (va_Qi post (gMB D m0 m1 m2 cJ cI (va_A (wM m0 m1 m2 cJ cI u) sz)) (va_A (wM m0 m1 m2 cJ cI u) sz)) rm.cells rm.slots (va_A (wM m0 m1 m2 cJ cI u) sz)
section GM
variable {l : Launch} {y : MethodName} {b : ByteArray} {n : Nat} {rm : Room} {t : Nat} {D : va_G} {m0 m1 m2 : Nat} {cJ cI : ClassId} {u : mS} {As : List Value}
theorem g_openMl {post : Int64 → mS → Prop} (hy : plainName y.cls = true) (hn : (lg_sl (.ref m0 :: As)).length ≤ n)
    (body : ∀ (p : Program) (e : Env) (s : State) (m : MethodId) (below : List Frame) (meth : Method) (c : Code) (ls : Array Slot) (A : Nat → Prop), (∀ q, s.heap.size ≤ q → A q) → CallFix p m c b n s (Value.ref m0 :: As).toArray (Cond.code y b n (some .long) :: gws) y.cls → meth.sig.returnType = some .long → meth.locks = false → gE t A s s.heap → va_P D vwCl (wM m0 m1 m2 cJ cI u) s.heap → va_K D vwCl [(cJ, .long), (cI, .int)] s → va_D A (wM m0 m1 m2 cJ cI u) → lv_has ls n (lv_args 0 (.ref m0 :: As)) →
      W p l e rm s m (Value.ref m0 :: As).toArray below meth c s.heap [] 0 0 (MQ below (va_Ql post (gMB D m0 m1 m2 cJ cI A) A) (Value.ref m0 :: As).toArray s rm.cells rm.slots A) (F0 m 0 ls [])) : gMl l y b n rm t D m0 m1 m2 cJ cI u As post := by
  intro sz
  refine Met.ofW (cc := b) (maxL := n) (ret := some .long) hy rfl ?_
  intro p e s m args below meth c s₁ B hml hv
  obtain ⟨rfl, hsz, hE, hP, hK, hD⟩ := hv
  subst hsz
  rw [lg_entry_eq]
  exact body p e s m below meth c _ _ (fun q h => Or.inr h) ⟨B.exec, B.bytes, hml, findClass_of_methodNamed B.named, atoms_spec (ws := Cond.code y b n (some .long) :: gws) B.pre⟩ B.returns B.notSynchronized hE hP hK hD.self (lv_entry (.ref m0 :: As) hn)
theorem g_openMi {post : Int32 → mS → Prop} (hy : plainName y.cls = true) (hn : (lg_sl (.ref m0 :: As)).length ≤ n)
    (body : ∀ (p : Program) (e : Env) (s : State) (m : MethodId) (below : List Frame) (meth : Method) (c : Code) (ls : Array Slot) (A : Nat → Prop), (∀ q, s.heap.size ≤ q → A q) → CallFix p m c b n s (Value.ref m0 :: As).toArray (Cond.code y b n (some .int) :: gws) y.cls → meth.sig.returnType = some .int → meth.locks = false → gE t A s s.heap → va_P D vwCl (wM m0 m1 m2 cJ cI u) s.heap → va_K D vwCl [(cJ, .long), (cI, .int)] s → va_D A (wM m0 m1 m2 cJ cI u) → lv_has ls n (lv_args 0 (.ref m0 :: As)) →
      W p l e rm s m (Value.ref m0 :: As).toArray below meth c s.heap [] 0 0 (MQ below (va_Qi post (gMB D m0 m1 m2 cJ cI A) A) (Value.ref m0 :: As).toArray s rm.cells rm.slots A) (F0 m 0 ls [])) : gMi l y b n rm t D m0 m1 m2 cJ cI u As post := by
  intro sz
  refine Met.ofW (cc := b) (maxL := n) (ret := some .int) hy rfl ?_
  intro p e s m args below meth c s₁ B hml hv
  obtain ⟨rfl, hsz, hE, hP, hK, hD⟩ := hv
  subst hsz
  rw [lg_entry_eq]
  exact body p e s m below meth c _ _ (fun q h => Or.inr h) ⟨B.exec, B.bytes, hml, findClass_of_methodNamed B.named, atoms_spec (ws := Cond.code y b n (some .int) :: gws) B.pre⟩ B.returns B.notSynchronized hE hP hK hD.self (lv_entry (.ref m0 :: As) hn)
/-- a method of the object that touches nothing at all -/
abbrev gPPre (sz b0 : Nat) (As : List Value) : Array Value → State → Prop := va_Pc (.ref b0 :: As) (fun U => U.heap.size = sz)
def gPl (l : Launch) (y : MethodName) (b : ByteArray) (n : Nat) (rm : Room) (b0 : Nat) (As : List Value) (post : Int64 → Prop) : Prop :=
  ∀ sz, Met l y (Cond.code y b n (some .long) :: gws) rm (gPPre sz b0 As) (va_Ql (fun r (_ : Unit) => post r) (fun _ t' => t'.heap.size = sz) (gN sz)) rm.cells rm.slots (gN sz)
def gPi (l : Launch) (y : MethodName) (b : ByteArray) (n : Nat) (ty : FieldType) (rm : Room) (b0 : Nat) (As : List Value) (post : Int32 → Prop) : Prop :=
  ∀ sz, Met l y (Cond.code y b n (some ty) :: gws) rm (gPPre sz b0 As) (va_Qi (fun r (_ : Unit) => post r) (fun _ t' => t'.heap.size = sz) (gN sz)) rm.cells rm.slots (gN sz)
theorem g_openPl {b0 : Nat} {post : Int64 → Prop} (hy : plainName y.cls = true) (hn : (lg_sl (.ref b0 :: As)).length ≤ n)
    (body : ∀ (p : Program) (e : Env) (s : State) (m : MethodId) (below : List Frame) (meth : Method) (c : Code) (ls : Array Slot), CallFix p m c b n s (Value.ref b0 :: As).toArray (Cond.code y b n (some .long) :: gws) y.cls → meth.sig.returnType = some .long → meth.locks = false → lv_has ls n (lv_args 0 (.ref b0 :: As)) →
      W p l e rm s m (Value.ref b0 :: As).toArray below meth c s.heap [] 0 0 (MQ below (va_Ql (fun r (_ : Unit) => post r) (fun _ t' => t'.heap.size = s.heap.size) (gN s.heap.size)) (Value.ref b0 :: As).toArray s rm.cells rm.slots (gN s.heap.size)) (F0 m 0 ls [])) : gPl l y b n rm b0 As post := by
  intro sz
  refine Met.ofW (cc := b) (maxL := n) (ret := some .long) hy rfl ?_
  intro p e s m args below meth c s₁ B hml hv
  obtain ⟨rfl, hsz⟩ := hv
  subst hsz
  rw [lg_entry_eq]
  exact body p e s m below meth c _ ⟨B.exec, B.bytes, hml, findClass_of_methodNamed B.named, atoms_spec (ws := Cond.code y b n (some .long) :: gws) B.pre⟩ B.returns B.notSynchronized (lv_entry (.ref b0 :: As) hn)
theorem g_openPi {b0 : Nat} {ty : FieldType} {post : Int32 → Prop} (hy : plainName y.cls = true) (hn : (lg_sl (.ref b0 :: As)).length ≤ n)
    (body : ∀ (p : Program) (e : Env) (s : State) (m : MethodId) (below : List Frame) (meth : Method) (c : Code) (ls : Array Slot), CallFix p m c b n s (Value.ref b0 :: As).toArray (Cond.code y b n (some ty) :: gws) y.cls → meth.sig.returnType = some ty → meth.locks = false → lv_has ls n (lv_args 0 (.ref b0 :: As)) →
      W p l e rm s m (Value.ref b0 :: As).toArray below meth c s.heap [] 0 0 (MQ below (va_Qi (fun r (_ : Unit) => post r) (fun _ t' => t'.heap.size = s.heap.size) (gN s.heap.size)) (Value.ref b0 :: As).toArray s rm.cells rm.slots (gN s.heap.size)) (F0 m 0 ls [])) : gPi l y b n ty rm b0 As post := by
  intro sz
  refine Met.ofW (cc := b) (maxL := n) (ret := some ty) hy rfl ?_
  intro p e s m args below meth c s₁ B hml hv
  obtain ⟨rfl, hsz⟩ := hv
  subst hsz
  rw [lg_entry_eq]
  exact body p e s m below meth c _ ⟨B.exec, B.bytes, hml, findClass_of_methodNamed B.named, atoms_spec (ws := Cond.code y b n (some ty) :: gws) B.pre⟩ B.returns B.notSynchronized (lv_entry (.ref b0 :: As) hn)
end GM
section GMC
variable {p : Program} {l : Launch} {e : Env} {R : Room} {s : State} {m : MethodId} {args : Array Value} {below : List Frame} {meth : Method} {c : Code} {H : Heap} {locs : List Loc} {cells slots : Nat} {Q : State → Prop}
variable {cc : ByteArray} {pc : Nat} {ls : Array Slot} {rest st0 : List Value} {A0 : Nat → Prop} {Ts : List Cond} {own : String} {nL : Nat}
variable {y : MethodName} {b : ByteArray} {n index t : Nat} {rm : Room} {As : List Value} {D : va_G} {m0 m1 m2 : Nat} {cJ cI : ClassId} {u : mS}
theorem g_callPl {post : Int64 → Prop} {b0 : Nat} (S : CallFix p m c cc nL s args Ts own) (hs : ∀ w ∈ gws, w ∈ Ts) (hM : gPl l y b n rm b0 As post) (hrec : ∃ cellB : Cell, H[b0]? = some cellB ∧ cellB.vm.isStatics = false ∧ s.vm.findClass y.cls = some cellB.cls)
    (h1 : Cond.methodLink own index y ∈ gws) (h2 : Cond.instanceMethod y ∈ gws) (h3 : Cond.selects y.cls y y ∈ gws) (h5 : Cond.initialized y.cls ∈ gws) (h4 : Cond.code y b n (some .long) ∈ gws)
    (hd : y.cls ≠ "java/lang/invoke/MethodHandle" ∧ y.cls ≠ "java/lang/invoke/VarHandle" ∧ (parseMethodDescriptor y.desc).map (fun d => d.parameters.length) = some As.length)
    (hR : rm.frames + 1 ≤ R.frames ∧ 8 + (n + 11) + rm.locals ≤ R.locals) (hsize : ls.size = nL) (hstack : st0 = As.reverse ++ .ref b0 :: rest) (hW : (rest.map fun v => v.category).sum ≤ 8) (hf : cells + rm.cells ≤ R.cells ∧ slots + rm.slots ≤ R.slots) (hdg : decode cc pc = .ok (.invokevirtual index, 3))
    (kk : ∀ r : Int64, post r → W p l e R s m args below meth c H locs cells slots Q (F0 m (pc + 3) ls (.long r :: rest))) :
    W p l e R s m args below meth c H locs cells slots Q (F0 m pc ls st0) := by
  intro T hT X
  obtain ⟨v, st₀, t', T', L, h0, X', hL, e1, e2, ⟨⟨r, u, hv, hp, hb⟩, hz, hk⟩, st⟩ := (va_runV (As := As) (rest := rest) (g := F0 m pc ls st0) S (hM H.size) (cwV As.length S.2.2.2.2 (gw_V hs h1 h2 h3 h5 h4) rfl rfl rfl ⟨rfl, hd⟩ hR) ⟨fun a U g mk q => q, hrec, fun U hU _ => ⟨rfl, congrArg Array.size hU⟩⟩ rfl rfl hsize hstack (lv_room hW) hdg hf) T hT X
  cases hv
  rw [h0] at hz hk
  have hh : T'.heap = H := g_heap (by rw [e1]; exact hb) (fun q hq => by rw [e1]; exact hk q hq (g_lt hq))
  obtain ⟨t2, a1, b1⟩ := kk r hp T' hh (g_back X X' (by rw [hh, hT]))
  exact ⟨t2, st t2 a1, b1⟩
theorem g_callPi {post : Int32 → Prop} {ty : FieldType} {b0 : Nat} (S : CallFix p m c cc nL s args Ts own) (hs : ∀ w ∈ gws, w ∈ Ts) (hM : gPi l y b n ty rm b0 As post) (hrec : ∃ cellB : Cell, H[b0]? = some cellB ∧ cellB.vm.isStatics = false ∧ s.vm.findClass y.cls = some cellB.cls)
    (h1 : Cond.methodLink own index y ∈ gws) (h2 : Cond.instanceMethod y ∈ gws) (h3 : Cond.selects y.cls y y ∈ gws) (h5 : Cond.initialized y.cls ∈ gws) (h4 : Cond.code y b n (some ty) ∈ gws)
    (hd : y.cls ≠ "java/lang/invoke/MethodHandle" ∧ y.cls ≠ "java/lang/invoke/VarHandle" ∧ (parseMethodDescriptor y.desc).map (fun d => d.parameters.length) = some As.length)
    (hR : rm.frames + 1 ≤ R.frames ∧ 8 + (n + 11) + rm.locals ≤ R.locals) (hsize : ls.size = nL) (hstack : st0 = As.reverse ++ .ref b0 :: rest) (hW : (rest.map fun v => v.category).sum ≤ 8) (hf : cells + rm.cells ≤ R.cells ∧ slots + rm.slots ≤ R.slots) (hdg : decode cc pc = .ok (.invokevirtual index, 3))
    (kk : ∀ r : Int32, post r → W p l e R s m args below meth c H locs cells slots Q (F0 m (pc + 3) ls (.int r :: rest))) :
    W p l e R s m args below meth c H locs cells slots Q (F0 m pc ls st0) := by
  intro T hT X
  obtain ⟨v, st₀, t', T', L, h0, X', hL, e1, e2, ⟨⟨r, u, hv, hp, hb⟩, hz, hk⟩, st⟩ := (va_runV (As := As) (rest := rest) (g := F0 m pc ls st0) S (hM H.size) (cwV As.length S.2.2.2.2 (gw_V hs h1 h2 h3 h5 h4) rfl rfl rfl ⟨rfl, hd⟩ hR) ⟨fun a U g mk q => q, hrec, fun U hU _ => ⟨rfl, congrArg Array.size hU⟩⟩ rfl rfl hsize hstack (lv_room hW) hdg hf) T hT X
  cases hv
  rw [h0] at hz hk
  have hh : T'.heap = H := g_heap (by rw [e1]; exact hb) (fun q hq => by rw [e1]; exact hk q hq (g_lt hq))
  obtain ⟨t2, a1, b1⟩ := kk r hp T' hh (g_back X X' (by rw [hh, hT]))
  exact ⟨t2, st t2 a1, b1⟩
theorem g_preM (hE : gE t A0 s s.heap) (hS : va_S A0 s.heap H locs) (hP : va_P D vwCl (wM m0 m1 m2 cJ cI u) H) (hK : va_K D vwCl [(cJ, .long), (cI, .int)] s) (hD : va_D A0 (wM m0 m1 m2 cJ cI u)) (hF : ∀ q, va_A (wM m0 m1 m2 cJ cI u) H.size q → A0 q) : PreV s H RX1 m0 (gMPre t D m0 m1 m2 cJ cI u H.size As) As :=
  ⟨gMPre_blind t D m0 m1 m2 cJ cI u H.size As, va_recv hK hP (ci := 1) (q0 := 0) rfl rfl, fun U hU hW => ⟨rfl, by rw [hU], by rw [hU]; exact ((hE.kept hS.2.1).narrow hF).warm hW, by rw [hU]; exact hP, va_K.moved hW.alike hK, hD.weaken (fun _ _ _ _ => trivial)⟩⟩
theorem g_callMl {post : Int64 → mS → Prop} (S : CallFix p m c cc nL s args Ts own) (hs : ∀ w ∈ gws, w ∈ Ts) (hM : gMl l y b n rm t D m0 m1 m2 cJ cI u As post) (hyc : y.cls = RX1)
    (h1 : Cond.methodLink own index y ∈ gws) (h2 : Cond.instanceMethod y ∈ gws) (h3 : Cond.selects RX1 y y ∈ gws) (h4 : Cond.code y b n (some .long) ∈ gws)
    (hd : y.cls ≠ "java/lang/invoke/MethodHandle" ∧ y.cls ≠ "java/lang/invoke/VarHandle" ∧ (parseMethodDescriptor y.desc).map (fun d => d.parameters.length) = some As.length)
    (hR : rm.frames + 1 ≤ R.frames ∧ 8 + (n + 11) + rm.locals ≤ R.locals) (hE : gE t A0 s s.heap) (hS : va_S A0 s.heap H locs) (hA : ∀ q, s.heap.size ≤ q → A0 q) (hP : va_P D vwCl (wM m0 m1 m2 cJ cI u) H) (hK : va_K D vwCl [(cJ, .long), (cI, .int)] s) (hD : va_D A0 (wM m0 m1 m2 cJ cI u)) (hsize : ls.size = nL)
    (hstack : st0 = As.reverse ++ .ref m0 :: rest) (hW : (rest.map fun v => v.category).sum ≤ 8) (hf : cells + rm.cells ≤ R.cells ∧ slots + rm.slots ≤ R.slots) (hdg : decode cc pc = .ok (.invokevirtual index, 3))
    (kk : ∀ (r : Int64) (u' : mS) (H1 : Heap) (locs1 : List Loc), post r u' → va_P D vwCl (wM m0 m1 m2 cJ cI u') H1 → va_D A0 (wM m0 m1 m2 cJ cI u') → va_S A0 s.heap H1 locs1 → W p l e R s m args below meth c H1 locs1 (cells + rm.cells) (slots + rm.slots) Q (F0 m (pc + 3) ls (.long r :: rest))) :
    W p l e R s m args below meth c H locs cells slots Q (F0 m pc ls st0) := by
  have hF := va_free (wc := wM m0 m1 m2 cJ cI u) hD hS hA [0, 1, 2] rfl
  exact va_calll (va_runV (As := As) (rest := rest) (g := F0 m pc ls st0) S (hM H.size) (cwV As.length S.2.2.2.2 (gw_V hs h1 h2 h3 in_X1 h4) rfl rfl rfl ⟨hyc, hd⟩ hR) (g_preM hE hS hP hK hD hF) rfl rfl hsize hstack (lv_room hW) hdg hf) hS (fun q _ h => hF q h) hF
    (fun r u' t' H1 locs1 ht _ hp hB _ _ hS1 => kk r u' H1 locs1 hp (by rw [← ht]; exact hB.1) (hB.2.2.weaken (fun _ q _ h => hF q.1 h)) hS1)
theorem g_callMi {post : Int32 → mS → Prop} (S : CallFix p m c cc nL s args Ts own) (hs : ∀ w ∈ gws, w ∈ Ts) (hM : gMi l y b n rm t D m0 m1 m2 cJ cI u As post) (hyc : y.cls = RX1)
    (h1 : Cond.methodLink own index y ∈ gws) (h2 : Cond.instanceMethod y ∈ gws) (h3 : Cond.selects RX1 y y ∈ gws) (h4 : Cond.code y b n (some .int) ∈ gws)
    (hd : y.cls ≠ "java/lang/invoke/MethodHandle" ∧ y.cls ≠ "java/lang/invoke/VarHandle" ∧ (parseMethodDescriptor y.desc).map (fun d => d.parameters.length) = some As.length)
    (hR : rm.frames + 1 ≤ R.frames ∧ 8 + (n + 11) + rm.locals ≤ R.locals) (hE : gE t A0 s s.heap) (hS : va_S A0 s.heap H locs) (hA : ∀ q, s.heap.size ≤ q → A0 q) (hP : va_P D vwCl (wM m0 m1 m2 cJ cI u) H) (hK : va_K D vwCl [(cJ, .long), (cI, .int)] s) (hD : va_D A0 (wM m0 m1 m2 cJ cI u)) (hsize : ls.size = nL)
    (hstack : st0 = As.reverse ++ .ref m0 :: rest) (hW : (rest.map fun v => v.category).sum ≤ 8) (hf : cells + rm.cells ≤ R.cells ∧ slots + rm.slots ≤ R.slots) (hdg : decode cc pc = .ok (.invokevirtual index, 3))
    (kk : ∀ (r : Int32) (u' : mS) (H1 : Heap) (locs1 : List Loc), post r u' → va_P D vwCl (wM m0 m1 m2 cJ cI u') H1 → va_D A0 (wM m0 m1 m2 cJ cI u') → va_S A0 s.heap H1 locs1 → W p l e R s m args below meth c H1 locs1 (cells + rm.cells) (slots + rm.slots) Q (F0 m (pc + 3) ls (.int r :: rest))) :
    W p l e R s m args below meth c H locs cells slots Q (F0 m pc ls st0) := by
  have hF := va_free (wc := wM m0 m1 m2 cJ cI u) hD hS hA [0, 1, 2] rfl
  exact va_calli (va_runV (As := As) (rest := rest) (g := F0 m pc ls st0) S (hM H.size) (cwV As.length S.2.2.2.2 (gw_V hs h1 h2 h3 in_X1 h4) rfl rfl rfl ⟨hyc, hd⟩ hR) (g_preM hE hS hP hK hD hF) rfl rfl hsize hstack (lv_room hW) hdg hf) hS (fun q _ h => hF q h) hF
    (fun r u' t' H1 locs1 ht _ hp hB _ _ hS1 => kk r u' H1 locs1 hp (by rw [← ht]; exact hB.1) (hB.2.2.weaken (fun _ q _ h => hF q.1 h)) hS1)
end GMC
