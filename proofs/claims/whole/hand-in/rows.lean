section
-- ===== PART A: goes FIRST, ahead of the names: the tables' words, and 'selects' of the private methods out of them =====
/-- a private method of a class that the tables say can be made, by its rows of tables_1 -/
def lw_okq (q : MethodName × Nat) : Prop := (q.1.cls ≠ "java/lang/invoke/MethodHandle" ∧ q.1.cls ≠ "java/lang/invoke/VarHandle") ∧ Cond.instantiable q.1.cls q.2 ∈ tables_1 ∧ Cond.privateMethod q.1 ∈ tables_1 ∧ Cond.instanceMethod q.1 ∈ tables_1
theorem lw_p0 : lw_okq (⟨"java/lang/Throwable", "fillInStackTrace", "(I)Ljava/lang/Throwable;"⟩, 6) := ⟨⟨by decide +kernel, by decide +kernel⟩, List.mem_of_getElem? (i := 78) (by decide +kernel), List.mem_of_getElem? (i := 76) (by decide +kernel), List.mem_of_getElem? (i := 77) (by decide +kernel)⟩
theorem lw_p1 : lw_okq (⟨"TenThousandthDeskModel", "out", "(I)Z"⟩, 3) := ⟨⟨by decide +kernel, by decide +kernel⟩, List.mem_of_getElem? (i := 221) (by decide +kernel), List.mem_of_getElem? (i := 246) (by decide +kernel), List.mem_of_getElem? (i := 247) (by decide +kernel)⟩
theorem lw_p2 : lw_okq (⟨"TenThousandthDeskModel", "fail", "(I)I"⟩, 3) := ⟨⟨by decide +kernel, by decide +kernel⟩, List.mem_of_getElem? (i := 221) (by decide +kernel), List.mem_of_getElem? (i := 252) (by decide +kernel), List.mem_of_getElem? (i := 253) (by decide +kernel)⟩
theorem lw_p3 : lw_okq (⟨"TenThousandthDeskModel", "put", "(IZJI)J"⟩, 3) := ⟨⟨by decide +kernel, by decide +kernel⟩, List.mem_of_getElem? (i := 221) (by decide +kernel), List.mem_of_getElem? (i := 267) (by decide +kernel), List.mem_of_getElem? (i := 268) (by decide +kernel)⟩
theorem lw_p4 : lw_okq (⟨"TenThousandthDeskModel", "product", "(JJ)J"⟩, 3) := ⟨⟨by decide +kernel, by decide +kernel⟩, List.mem_of_getElem? (i := 221) (by decide +kernel), List.mem_of_getElem? (i := 271) (by decide +kernel), List.mem_of_getElem? (i := 272) (by decide +kernel)⟩
theorem lw_p5 : lw_okq (⟨"TenThousandthDeskModel", "quotient", "(JJ)J"⟩, 3) := ⟨⟨by decide +kernel, by decide +kernel⟩, List.mem_of_getElem? (i := 221) (by decide +kernel), List.mem_of_getElem? (i := 278) (by decide +kernel), List.mem_of_getElem? (i := 279) (by decide +kernel)⟩
def lw_privs_1 : List (MethodName × Nat) := [(⟨"java/lang/Throwable", "fillInStackTrace", "(I)Ljava/lang/Throwable;"⟩, 6), (⟨"TenThousandthDeskModel", "out", "(I)Z"⟩, 3), (⟨"TenThousandthDeskModel", "fail", "(I)I"⟩, 3), (⟨"TenThousandthDeskModel", "put", "(IZJI)J"⟩, 3), (⟨"TenThousandthDeskModel", "product", "(JJ)J"⟩, 3), (⟨"TenThousandthDeskModel", "quotient", "(JJ)J"⟩, 3)]
theorem lw_r1 : ∀ q ∈ lw_privs_1, lw_okq q := List.forall_mem_cons.mpr ⟨lw_p0, List.forall_mem_cons.mpr ⟨lw_p1, List.forall_mem_cons.mpr ⟨lw_p2, List.forall_mem_cons.mpr ⟨lw_p3, List.forall_mem_cons.mpr ⟨lw_p4, List.forall_mem_cons.mpr ⟨lw_p5, fun _ h => absurd h List.not_mem_nil⟩⟩⟩⟩⟩⟩
def lw_privs : List (MethodName × Nat) := lw_privs_1
def lw_tbl : List Cond := k2_sels lw_privs ++ tables_1
theorem lw_privs_ok : ∀ q ∈ lw_privs, lw_okq q := lw_r1
-- ===== end of PART A; then your names; then what follows =====
end
section
/-! ===== BEGIN words of one list among another's, by their places ===== -/
theorem goodIn_r {big : List Cond} (ws : List Cond) (ps : List Nat) (hp : ws = ps.filterMap (fun i => big[i]?)) (h : ws.all goodWord = true) : GoodIn big ws := by
  intro w hw
  have h1 := List.all_eq_true.mp h w hw
  rw [hp] at hw
  obtain ⟨i, -, hi⟩ := List.mem_filterMap.mp hw
  have hm : w ∈ big := by first | exact List.mem_of_getElem? hi | exact List.getElem?_mem hi
  exact ⟨hm, good_of_word h1⟩
theorem goodIn_app {big a b : List Cond} (ha : GoodIn big a) (hb : GoodIn big b) : GoodIn big (a ++ b) := fun w h => (List.mem_append.mp h).elim (ha w) (hb w)
theorem goodIn_ca {big a b : List Cond} {c : Cond} (ha : GoodIn big (c :: a)) (hb : GoodIn big b) : GoodIn big (c :: (a ++ b)) := fun w h => (List.mem_cons.mp h).elim (fun e => ha w (List.mem_cons.mpr (Or.inl e))) (fun h => (List.mem_append.mp h).elim (fun h => ha w (List.mem_cons.mpr (Or.inr h))) (hb w))
theorem goodIn_sub {big ws : List Cond} (hm : ∀ w ∈ ws, w ∈ big) (h : ws.all goodWord = true) : GoodIn big ws := fun w hw => ⟨hm w hw, good_of_word (List.all_eq_true.mp h w hw)⟩
/-! ===== END ===== -/

/-! ===== BEGIN exceptions that leave a method, and their catching by the caller (launches without stack traces) ===== -/
/-! ===== my own rows: the search of a handler table whose classes may be cold ===== -/
/-- the search goes through the rows tb and stops at pc, whatever tables it begins with -/
def gh_F (e : Env) (s0 : State) (f : JFrame) (a : Addr) (cell : Cell) (tb : List ExceptionTableEntry) (pc : Nat) : Prop :=
  ∀ S : State, s0.WarmedH S.vm → S.heap[a]? = some cell → ∃ vm' : Vm, s0.WarmedH vm' ∧ ∀ (Q : Handler → Pre) (E : CtlPost) (d : Bool) (acts : List Action), wp (findHandler.go f a tb) Q E e d acts S ↔ Q (.found pc) d acts (S.setVm vm')
/-- one row that covers the pc and names a class: asked, the class is noted; it takes the thing or hands it on -/
theorem gh_row {e : Env} {S : State} {f : JFrame} {a : Addr} {x : ExceptionTableEntry} {t : List ExceptionTableEntry} {c : ClassId} {cell : Cell} (hx : covers x f.pc = true) (h0 : x.catchType ≠ 0) (hl : S.vm.ClassLinks e.platform f.method.cls x.catchType c) (hcell : S.heap[a]? = some cell) (hobj : ∀ k, cell.vm ≠ .statics k)
    (hk : ∃ k, S.vm.classes[cell.cls]? = some k) (hc : ∃ k, S.vm.classes[c]? = some k) (Q : Handler → Pre) (E : CtlPost) (d : Bool) (acts : List Action) :
    wp (findHandler.go f a (x :: t)) Q E e d acts S ↔ if S.vm.assignable cell.cls c = true then Q (.found x.handlerPc) d acts (S.setVm (S.vm.noted f.method.cls x.catchType (.cls c))) else wp (findHandler.go f a t) Q E e d acts (S.setVm (S.vm.noted f.method.cls x.catchType (.cls c))) := by
  have hal : S.vm.Alike (S.vm.noted f.method.cls x.catchType (.cls c)) := (Vm.Alike.refl S.vm).noted _ _ _
  obtain ⟨r1, r2⟩ := (resolveClass_links e.toSetting hl).op (op := VmOp.resolveClass f.method.cls x.catchType) rfl
  obtain ⟨k1, q1⟩ := hk
  obtain ⟨k2, q2⟩ := hc
  obtain ⟨_, q1', -⟩ := hal.2.2 _ _ q1
  obtain ⟨_, q2', -⟩ := hal.2.2 _ _ q2
  have ha := hal.assignable cell.cls c
  simp only [covers] at hx
  cases hfit : S.vm.assignable cell.cls c
  · rw [hfit] at ha
    simp [findHandler.go, hx, h0, r1, r2, hcell, hobj, q1', q2', ha, VmOp.dirties, VmOp.acts]
  · rw [hfit] at ha
    simp [findHandler.go, hx, h0, r1, r2, hcell, hobj, q1', q2', ha, VmOp.dirties, VmOp.acts]
theorem gh_take {e : Env} {s0 : State} {f : JFrame} {a : Addr} {cell : Cell} {x : ExceptionTableEntry} {t : List ExceptionTableEntry} {c : ClassId} (hx : covers x f.pc = true) (h0 : x.catchType ≠ 0) (hl : s0.vm.ClassLinks e.platform f.method.cls x.catchType c) (hobj : ∀ k, cell.vm ≠ .statics k) (hk : ∃ k, s0.vm.classes[cell.cls]? = some k) (hfit : s0.vm.assignable cell.cls c = true) : gh_F e s0 f a cell (x :: t) x.handlerPc := by
  intro S hW hcell
  obtain ⟨_, _, _, kt, hd, _, _, _, _, hkt, _, hopen⟩ := hl.here
  obtain ⟨k0, hk0⟩ := hk
  obtain ⟨_, z1, -⟩ := hW.alike.2.2 _ _ hk0
  obtain ⟨_, z2, -⟩ := hW.alike.2.2 _ _ hkt
  refine ⟨_, hW.noted hd hopen (State.rightAt_cls hl), fun Q E d acts => ?_⟩
  rw [gh_row hx h0 (hW.classLinks hl) hcell hobj ⟨_, z1⟩ ⟨_, z2⟩ Q E d acts, if_pos (by rw [hW.alike.assignable]; exact hfit)]
theorem gh_pass {e : Env} {s0 : State} {f : JFrame} {a : Addr} {cell : Cell} {x : ExceptionTableEntry} {t : List ExceptionTableEntry} {c : ClassId} {pc : Nat} (h0 : x.catchType ≠ 0) (hl : s0.vm.ClassLinks e.platform f.method.cls x.catchType c) (hobj : ∀ k, cell.vm ≠ .statics k) (hk : ∃ k, s0.vm.classes[cell.cls]? = some k) (hno : s0.vm.assignable cell.cls c = false) (ht : gh_F e s0 f a cell t pc) : gh_F e s0 f a cell (x :: t) pc := by
  intro S hW hcell
  by_cases hx : covers x f.pc = true
  · obtain ⟨_, _, _, kt, hd, _, _, _, _, hkt, _, hopen⟩ := hl.here
    obtain ⟨k0, hk0⟩ := hk
    obtain ⟨_, z1, -⟩ := hW.alike.2.2 _ _ hk0
    obtain ⟨_, z2, -⟩ := hW.alike.2.2 _ _ hkt
    obtain ⟨vm', w1, w2⟩ := ht (S.setVm (S.vm.noted f.method.cls x.catchType (.cls c))) (hW.noted hd hopen (State.rightAt_cls hl)) hcell
    refine ⟨vm', w1, fun Q E d acts => ?_⟩
    rw [gh_row hx h0 (hW.classLinks hl) hcell hobj ⟨_, z1⟩ ⟨_, z2⟩ Q E d acts, if_neg (by rw [hW.alike.assignable, hno]; decide)]
    exact w2 Q E d acts
  · obtain ⟨vm', w1, w2⟩ := ht S hW hcell
    refine ⟨vm', w1, fun Q E d acts => ?_⟩
    rw [W.findHandler_go_skip (by simpa using hx)]
    exact w2 Q E d acts
theorem gh_skip {e : Env} {s0 : State} {f : JFrame} {a : Addr} {cell : Cell} {x : ExceptionTableEntry} {t : List ExceptionTableEntry} {pc : Nat} (hx : covers x f.pc = false) (ht : gh_F e s0 f a cell t pc) : gh_F e s0 f a cell (x :: t) pc := by
  intro S hW hcell
  obtain ⟨vm', w1, w2⟩ := ht S hW hcell
  exact ⟨vm', w1, fun Q E d acts => by rw [W.findHandler_go_skip hx]; exact w2 Q E d acts⟩
theorem gh_pre {e : Env} {s0 : State} {f : JFrame} {a : Addr} {cell : Cell} {t : List ExceptionTableEntry} {pc : Nat} (hobj : ∀ k, cell.vm ≠ .statics k) (hk : ∃ k, s0.vm.classes[cell.cls]? = some k) (ht : gh_F e s0 f a cell t pc) : ∀ pre : List ExceptionTableEntry, (∀ z ∈ pre, covers z f.pc = false ∨ (z.catchType ≠ 0 ∧ ∃ c, s0.vm.ClassLinks e.platform f.method.cls z.catchType c ∧ s0.vm.assignable cell.cls c = false)) → gh_F e s0 f a cell (pre ++ t) pc
  | [], _ => ht
  | z :: zs, h => by
    have hr := gh_pre hobj hk ht zs (fun y hy => h y (List.mem_cons_of_mem _ hy))
    rcases h z List.mem_cons_self with h1 | ⟨h1, c, h2, h3⟩
    · exact gh_skip h1 hr
    · exact gh_pass h1 h2 hobj hk h3 hr
/-- from the note over the frame to the handler -/
theorem gh_go {p : Program} {l : Launch} {e : Env} {R : Room} {s : State} {m : MethodId} {args : Array Value} {below : List Frame} {meth : Method} {c : Code} {T : State} {locs : List Loc} {cells slots : Nat} (X : Stand p l e R s m args below meth c T locs cells slots) {g : JFrame} (hg : g.method = m) {a : Addr} {cell : Cell} (hcell : T.heap[a]? = some cell) {pc : Nat} (hF : gh_F e s g a cell c.exceptionTable.toList pc) :
    ∃ vm', Stand p l e R s m args below meth c (T.setVm vm') locs cells slots ∧ Steps p.tables e below ((T.setTop g).pushFrame (.throwing a)) ((T.setVm vm').setTop { g with pc := pc, stack := [.ref a] }) := by
  subst hg
  obtain ⟨vm', hW', hq⟩ := hF ((T.setTop g).pushFrame (.throwing a)) X.warmed hcell
  refine ⟨vm', X.noted hW', ?_⟩
  have hfind : ∀ (Q : Handler → Pre) (E : CtlPost) (d : Bool) (acts : List Action), wp (findHandler g a) Q E e d acts ((T.setTop g).pushFrame (.throwing a)) ↔ Q (.found pc) d acts (((T.setTop g).pushFrame (.throwing a)).setVm vm') := fun Q E d acts =>
    (W.findHandler_eq (s := (T.setTop g).pushFrame (.throwing a)) (meth := meth) (code := c) X.method' X.code).trans (hq Q E d acts)
  obtain ⟨hgo, hw⟩ := X.here.throwing a
  refine Steps.head hgo hw ?_
  obtain ⟨g₀, hg0⟩ := Option.isSome_iff_exists.mp X.here.top
  obtain ⟨r, hr⟩ := State.topJava?_eq_some.mp hg0
  have hr' : (T.setVm vm').frames = .java g₀ :: r := hr
  have hst : (stepThrowing e ((T.setTop g).pushFrame (.throwing a)) a (.java g :: T.frames.tail)).Is ((((T.setTop g).pushFrame (.throwing a)).setVm vm').setFrames (.java { g with pc := pc, stack := [.ref a] } :: T.frames.tail)) [] := by
    simp only [stepThrowing, searchFrame, vmDo]
    generalize hres : Sem.go _ e false [] _ = res
    obtain ⟨as, rfl, ha⟩ := Sem.eq_ok_of hres (a := Handler.found pc) (s' := ((T.setTop g).pushFrame (.throwing a)).setVm vm') (acts' := []) (by simp [hfind _ _ _ _])
    exact ⟨rfl, ha⟩
  rw [stepThread_throwing (frames_entered X.here.top _), hst.1]
  have e1 : (((T.setTop g).pushFrame (.throwing a)).setVm vm').setFrames (.java { g with pc := pc, stack := [.ref a] } :: T.frames.tail) = (T.setVm vm').setTop { g with pc := pc, stack := [.ref a] } := by
    rw [State.setTop_of_frames _ hr', hr, List.tail_cons, State.setTop_of_frames _ hr]
    show (((T.setFrames (.java g :: r)).setFrames _).setVm vm').setFrames _ = _
    rw [State.setFrames_setFrames]
    show ((T.setVm vm').setFrames _).setFrames _ = _
    rw [State.setFrames_setFrames]
  rw [e1]
  exact Steps.refl _
section VXA
/-! The laws vx_back, vx_callV, vx_callS, vx_callSW, vx_throw0, vx_throwS follow proofs of the library, with one case more: JvmDerived/Free/Laws.lean (Back.of_free), Shelf42/LK1.lean (callV, callS), Shelf/KitTraced.lean (throwNew0V, throwNewS). -/
/-- where a method has thrown q: the class by its name, the cell, what was written, the world -/
def vx_T (XC : String → State → State → Prop) (st : State) (q : Addr) (t : State) (mc ms : Nat) (free : Addr → Prop) : Prop :=
  ∃ (E : String) (ce : Cell) (L : List Loc), XC E st t ∧ t.heap[q]? = some ce ∧ ce.vm = .none ∧ st.vm.findClass E = some ce.cls ∧ st.WarmedH t.vm ∧ st.sameButNew ({ t with vm := st.vm } : State) L mc ms ∧ ∀ z ∈ L, free z.base
def vx_Q (Qc : Array Value → State → Outcome → State → Prop) (XC : String → State → State → Prop) (mc ms : Nat) (free : Addr → Prop) : Array Value → State → Outcome → State → Prop := fun a st o t =>
  (Qc a st o t ∧ ∃ L, FrameEnd st o t L mc ms ∧ ∀ q ∈ L, free q.base) ∨ ∃ q, o = .threw q ∧ vx_T XC st q t mc ms free
/-- a callee that returns or throws -/
def vx_Met (l : Launch) (y : MethodName) (ws : List Cond) (rm : Room) (Pc : Array Value → State → Prop) (Qc : Array Value → State → Outcome → State → Prop) (XC : String → State → State → Prop) (mc ms : Nat) (free : Addr → Prop) : Prop :=
  MetFree l y (headSpec ws rm) Pc (fun _ _ _ _ _ => True) (vx_Q Qc XC mc ms free)
def vx_Post (XC : String → State → State → Prop) (mc ms : Nat) (free : Addr → Prop) : Pt → Array Value → Addr → Pt → Prop := fun A a q B =>
  ∃ (g : JFrame) (mk : MethodId) (t : State) (L : List Loc) (E : String) (ce : Cell), B.U.heap = t.heap ∧ B.U.vm = t.vm ∧ XC E (A.U.calling g mk a) t ∧ t.heap[q]? = some ce ∧ ce.vm = .none ∧ A.U.vm.findClass E = some ce.cls ∧ B.locs = A.locs ++ L ∧ (∀ z ∈ L, free z.base) ∧ B.cells = A.cells + mc ∧ B.slots = A.slots + ms
def vx_Back (l : Launch) (R : Room) (p : Program) (e : Env) (below : List Frame) (s : State) (sargs : Array Value) (y : MethodName) (len W9 : Nat)
    (Pre : Pt → Array Value → Prop) (Post : Pt → Array Value → Option Value → Pt → Prop) (PostX : Pt → Array Value → Addr → Pt → Prop) : Prop :=
  ∀ (m : MethodId) (meth : Method) (c : Code) (A : Pt) (g : JFrame) (ig : Instr) (mk : MethodId) (a : Array Value),
    Stand p l e R s m sargs below meth c A.U A.locs A.cells A.slots → g.method = m → g.locals.size = c.maxLocals → decode c.code g.pc = .ok (ig, len) →
    2 * g.monitorRoom + (g.stack.map fun v => v.category).sum ≤ W9 → A.U.methodNamed? y = some mk → Pre A a →
    (∃ (v : Option Value) (B : Pt), Stand p l e R s m sargs below meth c B.U B.locs B.cells B.slots ∧ Post A a v B ∧
      Steps p.tables e below (doInvoke e (A.U.setTop g) [] mk a).1 (B.U.setTop { g with pc := g.pc + len, stack := v.toList ++ g.stack })) ∨
    (∃ (q : Addr) (B : Pt), Stand p l e R s m sargs below meth c B.U B.locs B.cells B.slots ∧ PostX A a q B ∧
      Steps p.tables e below (doInvoke e (A.U.setTop g) [] mk a).1 ((B.U.setTop g).pushFrame (.throwing q)))
section Payer
variable {l : Launch} {R : Room} {p : Program} {e : Env} {below : List Frame} {s : State} {sargs : Array Value} {y : MethodName} {len W9 : Nat}
theorem vx_back {ws : List Cond} {rm : Room} {Pc : Array Value → State → Prop} {Qc : Array Value → State → Outcome → State → Prop} {XC : String → State → State → Prop} {mc ms : Nat} {free : Addr → Prop} {bytes : ByteArray} {maxL : Nat} {ret : Option FieldType}
    (hM : vx_Met l y ws rm Pc Qc XC mc ms free) (hblind : FrameBlind Pc) (hrc : rm.cells = mc) (hrs : rm.slots = ms)
    (hframes : rm.frames + 1 ≤ R.frames) (hlocals : W9 + (maxL + 11) + rm.locals ≤ R.locals)
    (hws : ∀ w ∈ ws, ∀ a' U, s.WarmedH U.vm → w.before a' U = true) (hcode : Cond.code y bytes maxL ret ∈ ws) (hinit : ∀ a' U, s.WarmedH U.vm → (Cond.initialized y.cls).before a' U = true) :
    vx_Back l R p e below s sargs y len W9 (PreOf R mc ms Pc) (PostOf Qc mc ms free) (vx_Post XC mc ms free) := by
  intro m meth c A g ig mk a X hg hsize hdg hW hn hp
  have h1 : (headSpec ws rm).pre.before a A.U = true := atoms_intro fun w hw => hws w hw _ _ X.warmed
  have h2 : (Cond.code y bytes maxL ret).before a A.U = true := hws _ hcode _ _ X.warmed
  have h3 : (Cond.initialized y.cls).before a A.U = true := hinit _ _ X.warmed
  have h4 : A.cells + (headSpec ws rm).room.cells ≤ R.cells := by rw [show (headSpec ws rm).room.cells = mc from hrc]; exact hp.1
  have h5 : A.slots + (headSpec ws rm).room.slots ≤ R.slots := by rw [show (headSpec ws rm).room.slots = ms from hrs]; exact hp.2.1
  have hPc : Pc a (A.U.calling g mk a) := hblind _ _ _ _ hp.2.2
  obtain ⟨U, Ls, c0, s0⟩ := A
  dsimp only [Pt.U, Pt.locs, Pt.cells, Pt.slots] at h1 h2 h3 h4 h5 X hn hPc ⊢
  obtain ⟨methY, cY, hmY, hcY, -, hlY, -, -, -, -⟩ := Cond.code_spec hn h2
  obtain ⟨kY, hkY, -⟩ := className_of_methodNamed hn
  have hinitY : kY.init = .initialized := Cond.initialized_spec (findClass_of_methodNamed hn) hkY h3
  have h : At U g.method c below := by rw [hg]; exact X.here
  have hlocals9 : W9 + (maxL + 11) + (headSpec ws rm).room.locals ≤ R.locals := hlocals
  have happ : (headSpec ws rm).appliesLoose y e.platform (U.calling g mk a) = true :=
    Spec.appliesLoose_calling (g := g) h hdg hn hkY hinitY
      (X.room_calling (g := g) (R' := (headSpec ws rm).room) hsize hmY hcY hframes (by rw [hlY]; omega) h4 h5) h1
  obtain ⟨mid, hmid⟩ := h.above
  have hfr : (U.setTop g).frames = (.java g :: mid) ++ below := by rw [State.frames_setTop' g h.top, hmid]; rfl
  obtain ⟨o, s₂, hsteps, -, hend, hq⟩ := Steps.callFree hM p X.admits X.cas X.clock (acts := []) hfr happ hPc trivial
  have hq' : vx_Q Qc XC mc ms free a (U.calling g mk a) o s₂ := hq
  rw [State.frames_setTop' g h.top] at hend
  obtain ⟨g₀, hg0⟩ := Option.isSome_iff_exists.mp h.top
  obtain ⟨r, hr⟩ := State.topJava?_eq_some.mp hg0
  have hr' : (({ U with heap := s₂.heap, slotsUsed := s₂.slotsUsed } : State).setVm s₂.vm).frames = .java g₀ :: r := hr
  rcases hq' with ⟨hqc, L, hfe, hL⟩ | ⟨q, rfl, E, ce, L, hx, hce, hcv, hcl, hW₂, hsm, hL⟩
  · obtain ⟨⟨v, rfl⟩, hW₂, e2, q2, q3, q4, q5, q6⟩ := id hfe
    have e3 : s₂ = ({ (U.calling g mk a).setFrames s₂.frames with heap := s₂.heap, slotsUsed := s₂.slotsUsed } : State).setVm s₂.vm := by
      have : s₂ = ({ s₂ with vm := (U.calling g mk a).vm } : State).setVm s₂.vm := rfl
      rw [e2] at this
      exact this
    obtain ⟨c₂, i₂, len₂, hc₂, hd₂, hf₂⟩ := hend
    have hW' : U.WarmedH s₂.vm := hW₂
    have hcc : c₂ = c := by
      have h1 : s₂.code? g.method = U.code? g.method := by
        rw [State.code?_eq, State.code?_eq, hW'.alike.method?]
      exact Option.some.inj (hc₂.symm.trans (h1.trans h.code))
    subst hcc
    have hlen : len₂ = len := by rw [hdg] at hd₂; cases hd₂; rfl
    subst hlen
    have hs₂ : s₂ = (({ U with heap := s₂.heap, slotsUsed := s₂.slotsUsed } : State).setVm s₂.vm).setTop { g with pc := g.pc + len₂, stack := v.toList ++ g.stack } := by
      refine e3.trans ?_
      rw [hf₂, State.calling_eq h.top, State.setFrames_setFrames, State.setTop_of_frames _ hr', hr]
      rfl
    have hsame : U.sameButNew ({ U with heap := s₂.heap, slotsUsed := s₂.slotsUsed } : State) L mc ms := by
      refine ⟨?_, q2, q3, q4, q5, q6⟩
      obtain ⟨t, ht, -⟩ := State.frames_cons hr
      show ({ U with heap := s₂.heap, slotsUsed := s₂.slotsUsed } : State) = { U.setFrames U.frames with heap := s₂.heap, slotsUsed := s₂.slotsUsed }
      rw [State.setFrames_self ht]
    subst hg
    refine Or.inl ⟨v, ⟨(({ U with heap := s₂.heap, slotsUsed := s₂.slotsUsed } : State).setVm s₂.vm), Ls ++ L, c0 + mc, s0 + ms⟩,
      ⟨X.admits, X.cas, X.clock, X.frames, X.room, X.hears, X.method, X.code, (X.here.setHeapUsed s₂.heap s₂.slotsUsed).setVm hW'.alike, X.tail, State.WarmedH.trans X.warmed hW', X.limits, X.bytes, X.same.trans (hsame.setVm s.vm)⟩,
      ⟨g, mk, s₂, L, rfl, rfl, hqc, rfl, hL, rfl, rfl⟩, ?_⟩
    show Steps p.tables e below _ ((({ U with heap := s₂.heap, slotsUsed := s₂.slotsUsed } : State).setVm s₂.vm).setTop { g with pc := g.pc + len₂, stack := v.toList ++ g.stack })
    rw [← hs₂]
    exact hsteps
  · obtain ⟨e2, q2, q3, q4, q5, q6⟩ := id hsm
    have e3 : s₂ = ({ (U.calling g mk a).setFrames s₂.frames with heap := s₂.heap, slotsUsed := s₂.slotsUsed } : State).setVm s₂.vm := by
      have : s₂ = ({ s₂ with vm := (U.calling g mk a).vm } : State).setVm s₂.vm := rfl
      rw [e2] at this
      exact this
    have hf₂ : s₂.frames = .throwing q :: .java g :: U.frames.tail := hend
    have hW' : U.WarmedH s₂.vm := hW₂
    have hs₂ : s₂ = ((({ U with heap := s₂.heap, slotsUsed := s₂.slotsUsed } : State).setVm s₂.vm).setTop g).pushFrame (.throwing q) := by
      refine e3.trans ?_
      rw [hf₂, State.calling_eq h.top, State.setFrames_setFrames, State.pushFrame, State.frames_setTop _ hr', State.setTop_of_frames _ hr', State.setFrames_setFrames, hr]
      rfl
    have hsame : U.sameButNew ({ U with heap := s₂.heap, slotsUsed := s₂.slotsUsed } : State) L mc ms := by
      refine ⟨?_, q2, q3, q4, q5, q6⟩
      obtain ⟨t, ht, -⟩ := State.frames_cons hr
      show ({ U with heap := s₂.heap, slotsUsed := s₂.slotsUsed } : State) = { U.setFrames U.frames with heap := s₂.heap, slotsUsed := s₂.slotsUsed }
      rw [State.setFrames_self ht]
    subst hg
    refine Or.inr ⟨q, ⟨(({ U with heap := s₂.heap, slotsUsed := s₂.slotsUsed } : State).setVm s₂.vm), Ls ++ L, c0 + mc, s0 + ms⟩,
      ⟨X.admits, X.cas, X.clock, X.frames, X.room, X.hears, X.method, X.code, (X.here.setHeapUsed s₂.heap s₂.slotsUsed).setVm hW'.alike, X.tail, State.WarmedH.trans X.warmed hW', X.limits, X.bytes, X.same.trans (hsame.setVm s.vm)⟩,
      ⟨g, mk, s₂, L, E, ce, rfl, rfl, hx, hce, hcv, hcl, rfl, hL, rfl, rfl⟩, ?_⟩
    show Steps p.tables e below _ (((({ U with heap := s₂.heap, slotsUsed := s₂.slotsUsed } : State).setVm s₂.vm).setTop g).pushFrame (.throwing q))
    rw [← hs₂]
    exact hsteps
end Payer
section Calls
variable {p : Program} {l : Launch} {e : Env} {R : Room} {s : State} {m : MethodId} {args : Array Value} {below : List Frame} {meth : Method} {c : Code} {T : State} {locs : List Loc} {cells slots : Nat}
theorem vx_callV (X : Stand p l e R s m args below meth c T locs cells slots) (hexec : p.tables.exec = Jvm.exec) {own C : String} {index : Nat} {y : MethodName} {bytes : ByteArray} {maxL : Nat} {ret : Option FieldType}
    (hown : s.vm.findClass own = some m.cls) (hlink : (Cond.methodLink own index y).before args s = true) (hinst : (Cond.instanceMethod y).before args s = true) (hsel : (Cond.selects C y y).before args s = true)
    (hcode : (Cond.code y bytes maxL ret).before args s = true) (hy : y.cls ≠ "java/lang/invoke/MethodHandle" ∧ y.cls ≠ "java/lang/invoke/VarHandle")
    {W9 : Nat} {Pre : Pt → Array Value → Prop} {Post : Pt → Array Value → Option Value → Pt → Prop} {PostX : Pt → Array Value → Addr → Pt → Prop} (hK : vx_Back l R p e below s args y 3 W9 Pre Post PostX)
    {b : Addr} {cellB : Cell} (hcell : T.heap[b]? = some cellB) (hobj : cellB.vm.isStatics = false) (hcls : s.vm.findClass C = some cellB.cls)
    {g : JFrame} (hg : g.method = m) (hsize : g.locals.size = c.maxLocals) {argsL rest : List Value} (hlen : ∀ sig, parseMethodDescriptor y.desc = some sig → argsL.length = sig.parameters.length)
    (hstack : g.stack = argsL.reverse ++ .ref b :: rest) (hW : 2 * g.monitorRoom + (rest.map fun v => v.category).sum ≤ W9) (hdg : decode c.code g.pc = .ok (.invokevirtual index, 3))
    (hpre : ∀ vm₁, s.WarmedH vm₁ → Pre ⟨T.setVm vm₁, locs, cells, slots⟩ (Value.ref b :: argsL).toArray) :
    (∃ (v : Option Value) (vm₁ : Vm) (B : Pt), s.WarmedH vm₁ ∧ Stand p l e R s m args below meth c B.U B.locs B.cells B.slots ∧ Post ⟨T.setVm vm₁, locs, cells, slots⟩ (Value.ref b :: argsL).toArray v B ∧
      ∀ target, Steps p.tables e below (B.U.setTop { g with pc := g.pc + 3, stack := v.toList ++ rest }) target → Steps p.tables e below (T.setTop g) target) ∨
    (∃ (q : Addr) (vm₁ : Vm) (B : Pt), s.WarmedH vm₁ ∧ Stand p l e R s m args below meth c B.U B.locs B.cells B.slots ∧ PostX ⟨T.setVm vm₁, locs, cells, slots⟩ (Value.ref b :: argsL).toArray q B ∧
      Steps p.tables e below (T.setTop g) ((B.U.setTop { g with stack := rest }).pushFrame (.throwing q))) := by
  obtain ⟨mk, methM, hnamed, hmethM, hstM, habM⟩ := Cond.instanceMethod_spec hinst
  obtain ⟨methM', cM, hmethM', -, -, -, -, -, -, hsigM⟩ := Cond.code_spec hnamed hcode
  cases hmethM.symm.trans hmethM'
  obtain ⟨c2, r2, m2, q1, q2, q3, q4, kP, hkP, hkPi⟩ := Cond.selects_spec hsel
  cases hcls.symm.trans q1
  cases (State.methodFound?_of_named hnamed hy).symm.trans q2
  cases hnamed.symm.trans q3
  have hselP : selectMethod e.platform s.vm cellB.cls mk = .method mk := by rw [Launch.admits_selectMethod X.admits]; exact q4
  obtain ⟨vm₁, X₁, hstep₁⟩ := X.invokevirtual hexec hown hlink hnamed hmethM hstM hkP hkPi hy (a := b) (cell := cellB) hcell
    (fun z h => by rw [h] at hobj; cases hobj) hselP hmethM habM hkP hkPi (g := g) hg (argsL := argsL) (rest := rest) (hlen _ hsigM) hstack hdg
  rcases hK m meth c ⟨T.setVm vm₁, locs, cells, slots⟩ { g with stack := rest } (.invokevirtual index) mk (Value.ref b :: argsL).toArray X₁ hg hsize hdg hW (X₁.named hnamed) (hpre vm₁ X₁.warmed) with ⟨v, B, X', hpost, hsteps⟩ | ⟨q, B, X', hpost, hsteps⟩
  · exact Or.inl ⟨v, vm₁, B, X₁.warmed, X', hpost, fun target h => hstep₁ _ fun acts => by rw [doInvoke_state]; exact hsteps.trans h⟩
  · exact Or.inr ⟨q, vm₁, B, X₁.warmed, X', hpost, hstep₁ _ fun acts => by rw [doInvoke_state]; exact hsteps⟩
theorem vx_callS (X : Stand p l e R s m args below meth c T locs cells slots) (hexec : p.tables.exec = Jvm.exec) {own : String} {index : Nat} {y : MethodName} {bytes : ByteArray} {maxL : Nat} {ret : Option FieldType}
    (hown : s.vm.findClass own = some m.cls) (hlink : (Cond.methodLink own index y).before args s = true) (hstat : (Cond.static y).before args s = true) (hinit : (Cond.initialized y.cls).before args s = true)
    (hcode : (Cond.code y bytes maxL ret).before args s = true) (hy : y.cls ≠ "java/lang/invoke/MethodHandle" ∧ y.cls ≠ "java/lang/invoke/VarHandle")
    {W9 : Nat} {Pre : Pt → Array Value → Prop} {Post : Pt → Array Value → Option Value → Pt → Prop} {PostX : Pt → Array Value → Addr → Pt → Prop} (hK : vx_Back l R p e below s args y 3 W9 Pre Post PostX)
    {g : JFrame} (hg : g.method = m) (hsize : g.locals.size = c.maxLocals) {argsL rest : List Value} (hlen : ∀ sig, parseMethodDescriptor y.desc = some sig → argsL.length = sig.parameters.length)
    (hstack : g.stack = argsL.reverse ++ rest) (hW : 2 * g.monitorRoom + (rest.map fun v => v.category).sum ≤ W9) (hdg : decode c.code g.pc = .ok (.invokestatic index, 3))
    (hpre : ∀ vm₁, s.WarmedH vm₁ → Pre ⟨T.setVm vm₁, locs, cells, slots⟩ argsL.toArray) :
    (∃ (v : Option Value) (vm₁ : Vm) (B : Pt), s.WarmedH vm₁ ∧ Stand p l e R s m args below meth c B.U B.locs B.cells B.slots ∧ Post ⟨T.setVm vm₁, locs, cells, slots⟩ argsL.toArray v B ∧
      ∀ target, Steps p.tables e below (B.U.setTop { g with pc := g.pc + 3, stack := v.toList ++ rest }) target → Steps p.tables e below (T.setTop g) target) ∨
    (∃ (q : Addr) (vm₁ : Vm) (B : Pt), s.WarmedH vm₁ ∧ Stand p l e R s m args below meth c B.U B.locs B.cells B.slots ∧ PostX ⟨T.setVm vm₁, locs, cells, slots⟩ argsL.toArray q B ∧
      Steps p.tables e below (T.setTop g) ((B.U.setTop { g with stack := rest }).pushFrame (.throwing q))) := by
  obtain ⟨mk, hnamed⟩ := Cond.code_named hcode
  obtain ⟨methM, cM, hmethM, -, -, -, -, -, -, hsigM⟩ := Cond.code_spec hnamed hcode
  have hstatic : methM.isStatic = true := Cond.static_spec hnamed hmethM hstat
  obtain ⟨kP, hkP, -⟩ := className_of_methodNamed hnamed
  have hinitP : kP.init = .initialized := Cond.initialized_spec (findClass_of_methodNamed hnamed) hkP hinit
  obtain ⟨vm₁, X₁, hstep₁⟩ := X.invokestatic hexec hown hlink hnamed hmethM hstatic hkP hinitP hy (g := g) hg (argsL := argsL) (rest := rest) (hlen _ hsigM) hstack hdg
  rcases hK m meth c ⟨T.setVm vm₁, locs, cells, slots⟩ { g with stack := rest } (.invokestatic index) mk argsL.toArray X₁ hg hsize hdg hW (X₁.named hnamed) (hpre vm₁ X₁.warmed) with ⟨v, B, X', hpost, hsteps⟩ | ⟨q, B, X', hpost, hsteps⟩
  · exact Or.inl ⟨v, vm₁, B, X₁.warmed, X', hpost, fun target h => hstep₁ _ fun acts => by rw [doInvoke_state]; exact hsteps.trans h⟩
  · exact Or.inr ⟨q, vm₁, B, X₁.warmed, X', hpost, hstep₁ _ fun acts => by rw [doInvoke_state]; exact hsteps⟩
end Calls
theorem vx_cls {s : State} {T : State} {vm₁ : Vm} {E : String} {k : ClassId} (hW : s.WarmedH vm₁) (h : (T.setVm vm₁).vm.findClass E = some k) : s.vm.findClass E = some k := by
  have h1 : vm₁.findClass E = some k := h
  rw [hW.alike.findClass] at h1
  exact h1
/-- the method's frame g, with q thrown over it -/
def vx_W (p : Program) (l : Launch) (e : Env) (R : Room) (s : State) (m : MethodId) (args : Array Value) (below : List Frame) (meth : Method) (c : Code) (H : Heap) (locs : List Loc) (cells slots : Nat) (Q : State → Prop) (g : JFrame) (q : Addr) : Prop :=
  ∀ T : State, T.heap = H → Stand p l e R s m args below meth c T locs cells slots → ∃ t, Steps p.tables e below ((T.setTop g).pushFrame (.throwing q)) t ∧ Q t
def vx_Run (p : Program) (l : Launch) (e : Env) (R : Room) (s : State) (m : MethodId) (args : Array Value) (below : List Frame) (meth : Method) (c : Code) (H : Heap) (locs : List Loc) (cells slots mc ms : Nat) (g : JFrame) (rest : List Value) (Qa : State → Outcome → State → Prop) (XC : String → State → State → Prop) (free : Addr → Prop) : Prop :=
  ∀ T : State, T.heap = H → Stand p l e R s m args below meth c T locs cells slots →
    (∃ (v : Option Value) (st₀ t T' : State) (L : List Loc), st₀.heap = H ∧ Stand p l e R s m args below meth c T' (locs ++ L) (cells + mc) (slots + ms) ∧ (∀ q ∈ L, free q.base) ∧ T'.heap = t.heap ∧ T'.vm = t.vm ∧ Qa st₀ (.returned v) t ∧
      Goes p e below T g T' { g with pc := g.pc + 3, stack := v.toList ++ rest }) ∨
    (∃ (q : Addr) (st₀ t T' : State) (L : List Loc) (E : String) (ce : Cell), st₀.heap = H ∧ Stand p l e R s m args below meth c T' (locs ++ L) (cells + mc) (slots + ms) ∧ (∀ z ∈ L, free z.base) ∧ T'.heap = t.heap ∧ T'.vm = t.vm ∧ XC E st₀ t ∧ t.heap[q]? = some ce ∧ ce.vm = .none ∧ s.vm.findClass E = some ce.cls ∧
      Steps p.tables e below (T.setTop g) ((T'.setTop { g with stack := rest }).pushFrame (.throwing q)))
def vx_X {S : Type} (px : S → Prop) (B : String → S → State → Prop) (A : Nat → Prop) : String → State → State → Prop := fun E st t => ∃ u : S, px u ∧ B E u t ∧ va_F A st t
section Runs
variable {p : Program} {l : Launch} {e : Env} {R : Room} {s : State} {m : MethodId} {args : Array Value} {below : List Frame} {meth : Method} {c : Code} {H : Heap} {locs : List Loc} {cells slots : Nat}
variable {y : MethodName} {bytes cc : ByteArray} {maxL nL mc ms n index : Nat} {ret : Option FieldType} {ws : List Cond} {rm : Room} {Pc : Array Value → State → Prop} {Qc : Array Value → State → Outcome → State → Prop} {XC : String → State → State → Prop} {free : Addr → Prop} {Ts : List Cond} {own C : String} {b : Addr} {As rest : List Value} {g : JFrame}
theorem vx_callBack (cb : CallB R s args own index y bytes maxL ret ws rm mc ms n) (hM : vx_Met l y ws rm Pc Qc XC mc ms free) (hbl : FrameBlind Pc) : vx_Back l R p e below s args y 3 8 (PreOf R mc ms Pc) (PostOf Qc mc ms free) (vx_Post XC mc ms free) := by
  obtain ⟨hrc, hrs, hfr, hlo, hws, hcw, -, hini, -⟩ := cb
  exact vx_back (bytes := bytes) (maxL := maxL) (ret := ret) hM hbl hrc hrs hfr hlo hws hcw (fun a' U hW => word_at hW (Or.inl (by first | rfl | simp [Cond.onTables, Cond.keeps, Cond.steady])) hini)
theorem vx_runV (S : CallFix p m c cc nL s args Ts own) (hM : vx_Met l y ws rm Pc Qc XC mc ms free) (cw : CallW R s args own C index y bytes maxL ret ws rm mc ms n) (hp : PreV s H C b Pc As)
    (hg : g.method = m) (hn : As.length = n) (hsize : g.locals.size = nL) (hstack : g.stack = As.reverse ++ .ref b :: rest) (hW : 2 * g.monitorRoom + (rest.map fun v => v.category).sum ≤ 8) (hdg : decode cc g.pc = .ok (.invokevirtual index, 3)) (hf : cells + mc ≤ R.cells ∧ slots + ms ≤ R.slots) :
    vx_Run p l e R s m args below meth c H locs cells slots mc ms g rest (Qc (Value.ref b :: As).toArray) XC free := by
  have hK : vx_Back l R p e below s args y 3 8 (PreOf R mc ms Pc) (PostOf Qc mc ms free) (vx_Post XC mc ms free) := vx_callBack cw.1 hM hp.1
  obtain ⟨⟨-, -, -, -, -, -, hcode, -, hy, hlen, hl⟩, hin, hse⟩ := cw
  obtain ⟨hx, hb, hml, ho, -⟩ := S
  obtain ⟨-, ⟨cellB, hcB, hoB, hclB⟩, hPc⟩ := hp
  intro T hT X
  rcases vx_callV X hx (C := C) (bytes := bytes) (maxL := maxL) (ret := ret) ho hl hin hse hcode hy hK (by rw [hT]; exact hcB) hoB hclB hg (hsize.trans hml.symm) (argsL := As) (rest := rest) (fun sig h => hn.trans (hlen sig h)) hstack hW (by rw [hb]; exact hdg)
    (fun vm₁ hW₁ => ⟨hf.1, hf.2, hPc (T.setVm vm₁) hT hW₁⟩) with ⟨v, vm₁, ⟨U', l2, c2, s2⟩, hW₁, X', ⟨g', mk, t, L, e1, e2, hq, h1, hL, h2, h3⟩, st⟩ | ⟨q, vm₁, ⟨U', l2, c2, s2⟩, hW₁, X', ⟨g', mk, t, L, E, ce, e1, e2, hq, hce, hcv, hcl, h1, hL, h2, h3⟩, st⟩
  · dsimp only [Pt.U, Pt.locs, Pt.cells, Pt.slots] at X' e1 e2 h1 h2 h3 st
    subst h1; subst h2; subst h3
    exact Or.inl ⟨v, (T.setVm vm₁).calling g' mk (Value.ref b :: As).toArray, t, U', L, hT, X', hL, e1, e2, hq, st⟩
  · dsimp only [Pt.U, Pt.locs, Pt.cells, Pt.slots] at X' e1 e2 h1 h2 h3 st hcl
    subst h1; subst h2; subst h3
    exact Or.inr ⟨q, (T.setVm vm₁).calling g' mk (Value.ref b :: As).toArray, t, U', L, E, ce, hT, X', hL, e1, e2, hq, hce, hcv, vx_cls hW₁ hcl, st⟩
theorem vx_runS (S : CallFix p m c cc nL s args Ts own) (hM : vx_Met l y ws rm Pc Qc XC mc ms free) (cw : CallB R s args own index y bytes maxL ret ws rm mc ms n ∧ (Cond.static y).before args s = true) (hp : PreS s H Pc As)
    (hg : g.method = m) (hn : As.length = n) (hsize : g.locals.size = nL) (hstack : g.stack = As.reverse ++ rest) (hW : 2 * g.monitorRoom + (rest.map fun v => v.category).sum ≤ 8) (hdg : decode cc g.pc = .ok (.invokestatic index, 3)) (hf : cells + mc ≤ R.cells ∧ slots + ms ≤ R.slots) :
    vx_Run p l e R s m args below meth c H locs cells slots mc ms g rest (Qc As.toArray) XC free := by
  have hK : vx_Back l R p e below s args y 3 8 (PreOf R mc ms Pc) (PostOf Qc mc ms free) (vx_Post XC mc ms free) := vx_callBack cw.1 hM hp.1
  obtain ⟨⟨-, -, -, -, -, -, hcode, hini, hy, hlen, hl⟩, hstt⟩ := cw
  obtain ⟨hx, hb, hml, ho, -⟩ := S
  intro T hT X
  rcases vx_callS X hx (bytes := bytes) (maxL := maxL) (ret := ret) ho hl hstt hini hcode hy hK hg (hsize.trans hml.symm) (argsL := As) (rest := rest) (fun sig h => hn.trans (hlen sig h)) hstack hW (by rw [hb]; exact hdg)
    (fun vm₁ hW₁ => ⟨hf.1, hf.2, hp.2 (T.setVm vm₁) hT hW₁⟩) with ⟨v, vm₁, ⟨U', l2, c2, s2⟩, hW₁, X', ⟨g', mk, t, L, e1, e2, hq, h1, hL, h2, h3⟩, st⟩ | ⟨q, vm₁, ⟨U', l2, c2, s2⟩, hW₁, X', ⟨g', mk, t, L, E, ce, e1, e2, hq, hce, hcv, hcl, h1, hL, h2, h3⟩, st⟩
  · dsimp only [Pt.U, Pt.locs, Pt.cells, Pt.slots] at X' e1 e2 h1 h2 h3 st
    subst h1; subst h2; subst h3
    exact Or.inl ⟨v, (T.setVm vm₁).calling g' mk As.toArray, t, U', L, hT, X', hL, e1, e2, hq, st⟩
  · dsimp only [Pt.U, Pt.locs, Pt.cells, Pt.slots] at X' e1 e2 h1 h2 h3 st hcl
    subst h1; subst h2; subst h3
    exact Or.inr ⟨q, (T.setVm vm₁).calling g' mk As.toArray, t, U', L, E, ce, hT, X', hL, e1, e2, hq, hce, hcv, vx_cls hW₁ hcl, st⟩
end Runs
section Rows
variable {p : Program} {l : Launch} {e : Env} {R : Room} {s : State} {m : MethodId} {args : Array Value} {below : List Frame} {meth : Method} {c : Code} {H : Heap} {locs : List Loc} {cells slots : Nat} {Q : State → Prop}
variable {mc ms : Nat} {free : Addr → Prop} {A0 A1 : Nat → Prop} {H0 : Heap} {a : Array Value} {pc : Nat} {ls : Array Slot} {st0 rest : List Value}
theorem vx_keep {st₀ t T' : State} {L : List Loc} (h0 : st₀.heap = H) (e1 : T'.heap = t.heap) (hS : va_S A0 H0 H locs) (hA : ∀ q, q < H.size → A1 q → A0 q) (hf : ∀ q, free q → A0 q) (hL : ∀ q ∈ L, free q.base) (hF : va_F A1 st₀ t) :
    H.size ≤ T'.heap.size ∧ (∀ q : Nat, q < H.size → ¬ A1 q → T'.heap[q]? = H[q]?) ∧ va_S A0 H0 T'.heap (locs ++ L) := by
  obtain ⟨hz, hk⟩ := hF
  rw [h0] at hz hk
  exact ⟨by rw [e1]; exact hz, fun q h1 h2 => by rw [e1]; exact hk q h1 h2,
    ⟨Nat.le_trans hS.1 (by rw [e1]; exact hz), fun q h1 h2 => by rw [e1, hk q (Nat.lt_of_lt_of_le h1 hS.1) (fun z => h2 (hA q (Nat.lt_of_lt_of_le h1 hS.1) z))]; exact hS.2.1 q h1 h2, fun q hq => by
      rcases List.mem_append.mp hq with h | h
      · exact hS.2.2 q h
      · exact hf _ (hL q h)⟩⟩
theorem vx_calli {S SX : Type} {post : Int32 → S → Prop} {px : SX → Prop} {B : S → State → Prop} {BX : String → SX → State → Prop} {AX : Nat → Prop} (hr : vx_Run p l e R s m args below meth c H locs cells slots mc ms (F0 m pc ls st0) rest (va_Qi post B A1 a) (vx_X px BX AX) free) (hS : va_S A0 H0 H locs) (hA : ∀ q, q < H.size → A1 q → A0 q) (hf : ∀ q, free q → A0 q) (hAX : ∀ q, q < H.size → AX q → A0 q)
    (kx : ∀ (E : String) (ce : Cell) (q9 : Addr) (u : SX) (t : State) (H1 : Heap) (locs1 : List Loc), t.heap = H1 → s.vm.Alike t.vm → px u → BX E u t → H.size ≤ H1.size → (∀ q : Nat, q < H.size → ¬ AX q → H1[q]? = H[q]?) → va_S A0 H0 H1 locs1 → H1[q9]? = some ce → ce.vm = .none → s.vm.findClass E = some ce.cls → vx_W p l e R s m args below meth c H1 locs1 (cells + mc) (slots + ms) Q (F0 m pc ls rest) q9)
    (kk : ∀ (r : Int32) (u : S) (t : State) (H1 : Heap) (locs1 : List Loc), t.heap = H1 → s.vm.Alike t.vm → post r u → B u t → H.size ≤ H1.size → (∀ q : Nat, q < H.size → ¬ A1 q → H1[q]? = H[q]?) → va_S A0 H0 H1 locs1 → W p l e R s m args below meth c H1 locs1 (cells + mc) (slots + ms) Q (F0 m (pc + 3) ls (.int r :: rest))) : W p l e R s m args below meth c H locs cells slots Q (F0 m pc ls st0) := by
  intro T hT X
  rcases hr T hT X with ⟨v, st₀, t, T', L, h0, X', hL, e1, e2, ⟨⟨r, u, hv, hp, hb⟩, hF⟩, st⟩ | ⟨q, st₀, t, T', L, E, ce, h0, X', hL, e1, e2, ⟨u, hp, hb, hF⟩, hce, hcv, hcl, st⟩
  · cases hv
    obtain ⟨k1, k2, k3⟩ := vx_keep h0 e1 hS hA hf hL hF
    obtain ⟨t2, a1, b1⟩ := kk r u t T'.heap (locs ++ L) e1.symm (by rw [← e2]; exact X'.warmed.alike) hp hb k1 k2 k3 T' rfl X'
    exact ⟨t2, st t2 a1, b1⟩
  · obtain ⟨k1, k2, k3⟩ := vx_keep h0 e1 hS hAX hf hL hF
    obtain ⟨t2, a1, b1⟩ := kx E ce q u t T'.heap (locs ++ L) e1.symm (by rw [← e2]; exact X'.warmed.alike) hp hb k1 k2 k3 (by rw [e1]; exact hce) hcv hcl T' rfl X'
    exact ⟨t2, st.trans a1, b1⟩
theorem vx_calll {S SX : Type} {post : Int64 → S → Prop} {px : SX → Prop} {B : S → State → Prop} {BX : String → SX → State → Prop} {AX : Nat → Prop} (hr : vx_Run p l e R s m args below meth c H locs cells slots mc ms (F0 m pc ls st0) rest (va_Ql post B A1 a) (vx_X px BX AX) free) (hS : va_S A0 H0 H locs) (hA : ∀ q, q < H.size → A1 q → A0 q) (hf : ∀ q, free q → A0 q) (hAX : ∀ q, q < H.size → AX q → A0 q)
    (kx : ∀ (E : String) (ce : Cell) (q9 : Addr) (u : SX) (t : State) (H1 : Heap) (locs1 : List Loc), t.heap = H1 → s.vm.Alike t.vm → px u → BX E u t → H.size ≤ H1.size → (∀ q : Nat, q < H.size → ¬ AX q → H1[q]? = H[q]?) → va_S A0 H0 H1 locs1 → H1[q9]? = some ce → ce.vm = .none → s.vm.findClass E = some ce.cls → vx_W p l e R s m args below meth c H1 locs1 (cells + mc) (slots + ms) Q (F0 m pc ls rest) q9)
    (kk : ∀ (r : Int64) (u : S) (t : State) (H1 : Heap) (locs1 : List Loc), t.heap = H1 → s.vm.Alike t.vm → post r u → B u t → H.size ≤ H1.size → (∀ q : Nat, q < H.size → ¬ A1 q → H1[q]? = H[q]?) → va_S A0 H0 H1 locs1 → W p l e R s m args below meth c H1 locs1 (cells + mc) (slots + ms) Q (F0 m (pc + 3) ls (.long r :: rest))) : W p l e R s m args below meth c H locs cells slots Q (F0 m pc ls st0) := by
  intro T hT X
  rcases hr T hT X with ⟨v, st₀, t, T', L, h0, X', hL, e1, e2, ⟨⟨r, u, hv, hp, hb⟩, hF⟩, st⟩ | ⟨q, st₀, t, T', L, E, ce, h0, X', hL, e1, e2, ⟨u, hp, hb, hF⟩, hce, hcv, hcl, st⟩
  · cases hv
    obtain ⟨k1, k2, k3⟩ := vx_keep h0 e1 hS hA hf hL hF
    obtain ⟨t2, a1, b1⟩ := kk r u t T'.heap (locs ++ L) e1.symm (by rw [← e2]; exact X'.warmed.alike) hp hb k1 k2 k3 T' rfl X'
    exact ⟨t2, st t2 a1, b1⟩
  · obtain ⟨k1, k2, k3⟩ := vx_keep h0 e1 hS hAX hf hL hF
    obtain ⟨t2, a1, b1⟩ := kx E ce q u t T'.heap (locs ++ L) e1.symm (by rw [← e2]; exact X'.warmed.alike) hp hb k1 k2 k3 (by rw [e1]; exact hce) hcv hcl T' rfl X'
    exact ⟨t2, st.trans a1, b1⟩
theorem vx_callf {S SX : Type} {post : UInt32 → S → Prop} {px : SX → Prop} {B : S → State → Prop} {BX : String → SX → State → Prop} {AX : Nat → Prop} (hr : vx_Run p l e R s m args below meth c H locs cells slots mc ms (F0 m pc ls st0) rest (va_Qf post B A1 a) (vx_X px BX AX) free) (hS : va_S A0 H0 H locs) (hA : ∀ q, q < H.size → A1 q → A0 q) (hf : ∀ q, free q → A0 q) (hAX : ∀ q, q < H.size → AX q → A0 q)
    (kx : ∀ (E : String) (ce : Cell) (q9 : Addr) (u : SX) (t : State) (H1 : Heap) (locs1 : List Loc), t.heap = H1 → s.vm.Alike t.vm → px u → BX E u t → H.size ≤ H1.size → (∀ q : Nat, q < H.size → ¬ AX q → H1[q]? = H[q]?) → va_S A0 H0 H1 locs1 → H1[q9]? = some ce → ce.vm = .none → s.vm.findClass E = some ce.cls → vx_W p l e R s m args below meth c H1 locs1 (cells + mc) (slots + ms) Q (F0 m pc ls rest) q9)
    (kk : ∀ (r : UInt32) (u : S) (t : State) (H1 : Heap) (locs1 : List Loc), t.heap = H1 → s.vm.Alike t.vm → post r u → B u t → H.size ≤ H1.size → (∀ q : Nat, q < H.size → ¬ A1 q → H1[q]? = H[q]?) → va_S A0 H0 H1 locs1 → W p l e R s m args below meth c H1 locs1 (cells + mc) (slots + ms) Q (F0 m (pc + 3) ls (.float r :: rest))) : W p l e R s m args below meth c H locs cells slots Q (F0 m pc ls st0) := by
  intro T hT X
  rcases hr T hT X with ⟨v, st₀, t, T', L, h0, X', hL, e1, e2, ⟨⟨r, u, hv, hp, hb⟩, hF⟩, st⟩ | ⟨q, st₀, t, T', L, E, ce, h0, X', hL, e1, e2, ⟨u, hp, hb, hF⟩, hce, hcv, hcl, st⟩
  · cases hv
    obtain ⟨k1, k2, k3⟩ := vx_keep h0 e1 hS hA hf hL hF
    obtain ⟨t2, a1, b1⟩ := kk r u t T'.heap (locs ++ L) e1.symm (by rw [← e2]; exact X'.warmed.alike) hp hb k1 k2 k3 T' rfl X'
    exact ⟨t2, st t2 a1, b1⟩
  · obtain ⟨k1, k2, k3⟩ := vx_keep h0 e1 hS hAX hf hL hF
    obtain ⟨t2, a1, b1⟩ := kx E ce q u t T'.heap (locs ++ L) e1.symm (by rw [← e2]; exact X'.warmed.alike) hp hb k1 k2 k3 (by rw [e1]; exact hce) hcv hcl T' rfl X'
    exact ⟨t2, st.trans a1, b1⟩
theorem vx_calld {S SX : Type} {post : UInt64 → S → Prop} {px : SX → Prop} {B : S → State → Prop} {BX : String → SX → State → Prop} {AX : Nat → Prop} (hr : vx_Run p l e R s m args below meth c H locs cells slots mc ms (F0 m pc ls st0) rest (va_Qd post B A1 a) (vx_X px BX AX) free) (hS : va_S A0 H0 H locs) (hA : ∀ q, q < H.size → A1 q → A0 q) (hf : ∀ q, free q → A0 q) (hAX : ∀ q, q < H.size → AX q → A0 q)
    (kx : ∀ (E : String) (ce : Cell) (q9 : Addr) (u : SX) (t : State) (H1 : Heap) (locs1 : List Loc), t.heap = H1 → s.vm.Alike t.vm → px u → BX E u t → H.size ≤ H1.size → (∀ q : Nat, q < H.size → ¬ AX q → H1[q]? = H[q]?) → va_S A0 H0 H1 locs1 → H1[q9]? = some ce → ce.vm = .none → s.vm.findClass E = some ce.cls → vx_W p l e R s m args below meth c H1 locs1 (cells + mc) (slots + ms) Q (F0 m pc ls rest) q9)
    (kk : ∀ (r : UInt64) (u : S) (t : State) (H1 : Heap) (locs1 : List Loc), t.heap = H1 → s.vm.Alike t.vm → post r u → B u t → H.size ≤ H1.size → (∀ q : Nat, q < H.size → ¬ A1 q → H1[q]? = H[q]?) → va_S A0 H0 H1 locs1 → W p l e R s m args below meth c H1 locs1 (cells + mc) (slots + ms) Q (F0 m (pc + 3) ls (.double r :: rest))) : W p l e R s m args below meth c H locs cells slots Q (F0 m pc ls st0) := by
  intro T hT X
  rcases hr T hT X with ⟨v, st₀, t, T', L, h0, X', hL, e1, e2, ⟨⟨r, u, hv, hp, hb⟩, hF⟩, st⟩ | ⟨q, st₀, t, T', L, E, ce, h0, X', hL, e1, e2, ⟨u, hp, hb, hF⟩, hce, hcv, hcl, st⟩
  · cases hv
    obtain ⟨k1, k2, k3⟩ := vx_keep h0 e1 hS hA hf hL hF
    obtain ⟨t2, a1, b1⟩ := kk r u t T'.heap (locs ++ L) e1.symm (by rw [← e2]; exact X'.warmed.alike) hp hb k1 k2 k3 T' rfl X'
    exact ⟨t2, st t2 a1, b1⟩
  · obtain ⟨k1, k2, k3⟩ := vx_keep h0 e1 hS hAX hf hL hF
    obtain ⟨t2, a1, b1⟩ := kx E ce q u t T'.heap (locs ++ L) e1.symm (by rw [← e2]; exact X'.warmed.alike) hp hb k1 k2 k3 (by rw [e1]; exact hce) hcv hcl T' rfl X'
    exact ⟨t2, st.trans a1, b1⟩
theorem vx_callv {S SX : Type} {post : S → Prop} {px : SX → Prop} {B : S → State → Prop} {BX : String → SX → State → Prop} {AX : Nat → Prop} (hr : vx_Run p l e R s m args below meth c H locs cells slots mc ms (F0 m pc ls st0) rest (va_Qv post B A1 a) (vx_X px BX AX) free) (hS : va_S A0 H0 H locs) (hA : ∀ q, q < H.size → A1 q → A0 q) (hf : ∀ q, free q → A0 q) (hAX : ∀ q, q < H.size → AX q → A0 q)
    (kx : ∀ (E : String) (ce : Cell) (q9 : Addr) (u : SX) (t : State) (H1 : Heap) (locs1 : List Loc), t.heap = H1 → s.vm.Alike t.vm → px u → BX E u t → H.size ≤ H1.size → (∀ q : Nat, q < H.size → ¬ AX q → H1[q]? = H[q]?) → va_S A0 H0 H1 locs1 → H1[q9]? = some ce → ce.vm = .none → s.vm.findClass E = some ce.cls → vx_W p l e R s m args below meth c H1 locs1 (cells + mc) (slots + ms) Q (F0 m pc ls rest) q9)
    (kk : ∀ (u : S) (t : State) (H1 : Heap) (locs1 : List Loc), t.heap = H1 → s.vm.Alike t.vm → post u → B u t → H.size ≤ H1.size → (∀ q : Nat, q < H.size → ¬ A1 q → H1[q]? = H[q]?) → va_S A0 H0 H1 locs1 → W p l e R s m args below meth c H1 locs1 (cells + mc) (slots + ms) Q (F0 m (pc + 3) ls (rest))) : W p l e R s m args below meth c H locs cells slots Q (F0 m pc ls st0) := by
  intro T hT X
  rcases hr T hT X with ⟨v, st₀, t, T', L, h0, X', hL, e1, e2, ⟨⟨u, hv, hp, hb⟩, hF⟩, st⟩ | ⟨q, st₀, t, T', L, E, ce, h0, X', hL, e1, e2, ⟨u, hp, hb, hF⟩, hce, hcv, hcl, st⟩
  · cases hv
    obtain ⟨k1, k2, k3⟩ := vx_keep h0 e1 hS hA hf hL hF
    obtain ⟨t2, a1, b1⟩ := kk u t T'.heap (locs ++ L) e1.symm (by rw [← e2]; exact X'.warmed.alike) hp hb k1 k2 k3 T' rfl X'
    exact ⟨t2, st t2 a1, b1⟩
  · obtain ⟨k1, k2, k3⟩ := vx_keep h0 e1 hS hAX hf hL hF
    obtain ⟨t2, a1, b1⟩ := kx E ce q u t T'.heap (locs ++ L) e1.symm (by rw [← e2]; exact X'.warmed.alike) hp hb k1 k2 k3 (by rw [e1]; exact hce) hcv hcl T' rfl X'
    exact ⟨t2, st.trans a1, b1⟩
/-- caught by the row x of this method's table; the rows ahead don't take it -/
theorem vx_catch {own name : String} {E : String} {ce : Cell} {q : Addr} (hown : s.vm.findClass own = some m.cls) (pre : List ExceptionTableEntry) (x : ExceptionTableEntry) (suf : List ExceptionTableEntry) (hsplit : c.exceptionTable.toList = pre ++ x :: suf)
    (hpass : ∀ z ∈ pre, covers z pc = false ∨ (z.catchType ≠ 0 ∧ ∃ nm : String, (Cond.classLink own z.catchType nm).before args s = true ∧ va_Nc E nm s)) (hx : covers x pc = true) (h0 : x.catchType ≠ 0)
    (hlink : (Cond.classLink own x.catchType name).before args s = true) (hcast : (Cond.castable E name).before args s = true) (hcell : H[q]? = some ce) (hv : ce.vm = .none) (hcl : s.vm.findClass E = some ce.cls)
    (kk : W p l e R s m args below meth c H locs cells slots Q (F0 m x.handlerPc ls [.ref q])) : vx_W p l e R s m args below meth c H locs cells slots Q (F0 m pc ls rest) q := by
  intro T hT X
  have hpl : e.platform.magicAccessors = ({} : Platform).magicAccessors := by rw [X.admits.platform]
  obtain ⟨c3, c4, hc3, hc4, hasg⟩ := Cond.castable_spec hcast
  cases Option.some.inj (hc3.symm.trans hcl)
  obtain ⟨c5, hc5, hcl5⟩ := Cond.classLink_spec hown hlink e.platform hpl
  cases Option.some.inj (hc4.symm.trans hc5)
  have hobj : ∀ k, ce.vm ≠ .statics k := fun k h => by rw [hv] at h; cases h
  have hk0 : ∃ k, s.vm.classes[ce.cls]? = some k := by obtain ⟨k9, h9, -⟩ := Vm.findClass_spec hcl; exact ⟨k9, h9⟩
  obtain ⟨vm', X', st⟩ := gh_go X (g := F0 m pc ls rest) rfl (by rw [hT]; exact hcell) (pc := x.handlerPc) (by
    rw [hsplit]
    refine gh_pre hobj hk0 (gh_take hx h0 hcl5 hobj hk0 hasg) pre (fun z hz => ?_)
    rcases hpass z hz with h | ⟨hz0, nm, hl1, hn1⟩
    · exact Or.inl h
    · obtain ⟨c6, hc6, hcl6⟩ := Cond.classLink_spec hown hl1 e.platform hpl
      obtain ⟨a8, b8, h1, h2, h3⟩ := hn1
      cases Option.some.inj (h1.symm.trans hcl)
      cases Option.some.inj (h2.symm.trans hc6)
      exact Or.inr ⟨hz0, _, hcl6, h3⟩)
  obtain ⟨t, a1, b1⟩ := kk (T.setVm vm') hT X'
  exact ⟨t, st.trans a1, b1⟩
end Rows
section Ends
variable {p : Program} {l : Launch} {e : Env} {R : Room} {s : State} {m : MethodId} {args : Array Value} {below : List Frame} {meth : Method} {c : Code} {H : Heap} {locs : List Loc} {cells slots : Nat} {Q : State → Prop}
variable {mc ms : Nat} {free : Addr → Prop} {A0 A1 : Nat → Prop} {H0 : Heap} {a : Array Value} {ls : Array Slot} {st0 rest : List Value}
variable {Qc : Array Value → State → Outcome → State → Prop} {XC : String → State → State → Prop}
/-- what a body that may throw owes at its end -/
def vx_MQ (below : List Frame) (Qc : Array Value → State → Outcome → State → Prop) (XC : String → State → State → Prop) (a : Array Value) (s : State) (mc ms : Nat) (free : Addr → Prop) : State → Prop := fun t =>
  ∃ o, t.status = .running ∧ Ended t below o ∧ vx_Q Qc XC mc ms free a s o t
theorem vx_ret {g : JFrame} {mc ms : Nat} (k : W p l e R s m args below meth c H locs cells slots (MQ below Qc args s mc ms free) g) : W p l e R s m args below meth c H locs cells slots (vx_MQ below Qc XC args s mc ms free) g := by
  intro T hT X
  obtain ⟨t, a1, o, b1, b2, b3, b4⟩ := k T hT X
  exact ⟨t, a1, o, b1, b2, Or.inl ⟨b3, b4⟩⟩
/-- not caught here: it goes on to the caller -/
theorem vx_widen {g : JFrame} {q : Addr} {k n : Nat} (h1 : cells ≤ k) (h2 : slots ≤ n) (kk : vx_W p l e R s m args below meth c H locs k n Q g q) : vx_W p l e R s m args below meth c H locs cells slots Q g q := fun T hT X => kk T hT (stand_widen X h1 h2)
theorem vx_out {pc : Nat} {E : String} {ce : Cell} {q : Addr} {mc ms : Nat} (hout : ∀ x ∈ c.exceptionTable.toList, covers x pc = false) (hlocks : meth.locks = false) (hcell : H[q]? = some ce) (hv : ce.vm = .none) (hcl : s.vm.findClass E = some ce.cls)
    (hx : ∀ t : State, t.heap = H → s.vm.Alike t.vm → XC E s t) (hf : ∀ z ∈ locs, free z.base) (hc : cells ≤ mc) (hs : slots ≤ ms) :
    vx_W p l e R s m args below meth c H locs cells slots (vx_MQ below Qc XC args s mc ms free) (F0 m pc ls rest) q := by
  intro T hT X
  obtain ⟨st1, hrun, hend, hW, hsm⟩ := X.leaveThrown q (g := F0 m pc ls rest) rfl rfl rfl hout hlocks
  have hcell9 : (T.setFrames (.throwing q :: below)).heap[q]? = some ce := by
    show T.heap[q]? = some ce
    rw [hT]; exact hcell
  exact ⟨_, st1, .threw q, hrun, hend, Or.inr ⟨q, rfl, E, ce, locs, hx _ hT hW.alike, hcell9, hv, hcl, hW, hsm.mono hc hs, hf⟩⟩
theorem vx_frame {U : State} {k n : Nat} (h : s.sameButNew ({ U with vm := s.vm } : State) locs k n) : s.heap.size ≤ U.heap.size ∧ ∀ q : Nat, q < s.heap.size → (∀ z ∈ locs, z.base ≠ q) → U.heap[q]? = s.heap[q]? := by
  obtain ⟨-, h2, -, -, -, h6⟩ := h
  refine ⟨h2, fun q hq hz => ?_⟩
  obtain ⟨c9, e1, e2, e3, e4⟩ := h6 q _ (Array.getElem?_eq_getElem hq)
  have hs : c9.slots = (s.heap[q]).slots := Array.ext_getElem? fun i => e4 i fun hm => hz _ hm rfl
  have h9 : c9 = s.heap[q] := by
    rw [hs] at e2
    exact e2
  have e5 : U.heap[q]? = some c9 := e1
  rw [e5, h9, Array.getElem?_eq_getElem hq]
/-- the words of a throw but the four that speak of the heap -/
def vx_no (w : Cond) : Bool := decide (w ≠ .isRef (.static Bundle.tN "UNASSIGNED_STACK" Bundle.steD)) && decide (w ≠ .isRef (.static Bundle.tN "SUPPRESSED_SENTINEL" Bundle.listD)) && decide (w ≠ .laysStatic Bundle.tN "UNASSIGNED_STACK" Bundle.steD) && decide (w ≠ .laysStatic Bundle.tN "SUPPRESSED_SENTINEL" Bundle.listD)
def vx_at0 (own : String) (ic : Nat) (X : String) (names : List String) : List Cond := (Bundle.ownAtoms0 own ic X names).filter vx_no
def vx_atS (own : String) (ic : Nat) (X : String) (names : List String) : List Cond := (Bundle.ownAtoms own ic X names).filter vx_no
/-- a word that the tables alone decide, or a good one -/
def vx_ot (w : Cond) : Bool := w.onTables || goodWord w
theorem vx_ot_at {args a' : Array Value} {s U : State} {w : Cond} (hW : s.WarmedH U.vm) (hvm : s.vm = U.vm) (hg : vx_ot w = true) (h : w.before args s = true) : w.before a' U = true := by
  simp only [vx_ot, Bool.or_eq_true] at hg
  rcases hg with hg | hg
  · exact va_tabs hg hvm h
  · exact word_at hW (good_of_word hg) h
/-- a list's words: the good ones out of the method's own list, the others by premises of their own -/
theorem vx_hat {args : Array Value} {s : State} {L B : List Cond} (h1 : ∀ w ∈ L.filter goodWord, w.before args s = true) (h2 : ∀ w ∈ L.filter (fun w => !goodWord w), w ∈ B) (h3 : ∀ w ∈ B, w.before args s = true) : ∀ w ∈ L, w.before args s = true := by
  intro w hw
  by_cases g : goodWord w = true
  · exact h1 w (List.mem_filter.mpr ⟨hw, g⟩)
  · refine h3 w (h2 w (List.mem_filter.mpr ⟨hw, ?_⟩))
    show (!goodWord w) = true
    cases hgw : goodWord w
    · rfl
    · exact absurd hgw g
theorem vx_c {args : Array Value} {s : State} {w : Cond} {B : List Cond} (h : w.before args s = true) (t : ∀ w ∈ B, w.before args s = true) : ∀ w' ∈ w :: B, w'.before args s = true := fun w' h' => (List.mem_cons.mp h').elim (fun e => by rw [e]; exact h) (t w')
theorem vx_n {args : Array Value} {s : State} : ∀ w ∈ ([] : List Cond), w.before args s = true := fun _ h => nomatch h
theorem vx_own {args : Array Value} {s : State} {L : List Cond} (h1 : ∀ w ∈ L.filter vx_no, w.before args s = true)
    (hU : (Cond.isRef (.static Bundle.tN "UNASSIGNED_STACK" Bundle.steD)).before args s = true) (hN : (Cond.isRef (.static Bundle.tN "SUPPRESSED_SENTINEL" Bundle.listD)).before args s = true)
    (lU : (Cond.laysStatic Bundle.tN "UNASSIGNED_STACK" Bundle.steD).before args s = true) (lN : (Cond.laysStatic Bundle.tN "SUPPRESSED_SENTINEL" Bundle.listD).before args s = true) : ∀ w ∈ L, w.before args s = true := by
  intro w hw
  by_cases e1 : w = .isRef (.static Bundle.tN "UNASSIGNED_STACK" Bundle.steD)
  · rw [e1]; exact hU
  · by_cases e2 : w = .isRef (.static Bundle.tN "SUPPRESSED_SENTINEL" Bundle.listD)
    · rw [e2]; exact hN
    · by_cases e3 : w = .laysStatic Bundle.tN "UNASSIGNED_STACK" Bundle.steD
      · rw [e3]; exact lU
      · by_cases e4 : w = .laysStatic Bundle.tN "SUPPRESSED_SENTINEL" Bundle.listD
        · rw [e4]; exact lN
        · exact h1 w (List.mem_filter.mpr ⟨hw, by unfold vx_no; rw [decide_eq_true e1, decide_eq_true e2, decide_eq_true e3, decide_eq_true e4]; rfl⟩)
/-- where a static field lies, its class's statics cell in H -/
def vx_L (C n d : String) (A : Nat → Prop) (U : State) (H : Heap) : Prop := ∃ (c : ClassId) (k : Class) (i : Nat) (f : Field) (a : Nat) (cell : Cell), U.vm.findClass C = some c ∧ U.fieldFound? C n d = some (c, k, i, f) ∧ f.isStatic = true ∧ k.statics = some a ∧ H[a]? = some cell ∧ cell.vm.isStatics = true ∧ cell.cls = c ∧ f.slot < cell.slots.size ∧ k.staticTypes[f.slot]? = some f.type ∧ ¬ A a
theorem vx_L.moved {C n d : String} {A : Nat → Prop} {u U : State} {H : Heap} (hvm : u.vm.Alike U.vm) (h : vx_L C n d A u H) : vx_L C n d A U H := by
  obtain ⟨c, k, i, f, a, cell, h1, h2, h3, h4, h5, h6, h7, h8, h9, h10⟩ := h
  obtain ⟨k', hi', he⟩ := State.fieldFound?_setVm hvm h2
  exact ⟨c, k', i, f, a, cell, by rw [hvm.findClass]; exact h1, hi', h3, by rw [he]; exact h4, h5, h6, h7, h8, by rw [he]; exact h9, h10⟩
theorem vx_L.kept {C n d : String} {A : Nat → Prop} {U : State} {H H1 : Heap} (h : vx_L C n d A U H) (hq : ∀ a : Nat, a < H.size → ¬ A a → H1[a]? = H[a]?) : vx_L C n d A U H1 := by
  obtain ⟨c, k, i, f, a, cell, h1, h2, h3, h4, h5, h6, h7, h8, h9, h10⟩ := h
  exact ⟨c, k, i, f, a, cell, h1, h2, h3, h4, by rw [hq a (Array.getElem?_eq_some_iff.mp h5).1 h10]; exact h5, h6, h7, h8, h9, h10⟩
theorem vx_L.narrow {C n d : String} {A B : Nat → Prop} {U : State} {H : Heap} (h : vx_L C n d A U H) (hAB : ∀ q, B q → A q) : vx_L C n d B U H := by
  obtain ⟨c, k, i, f, a, cell, h1, h2, h3, h4, h5, h6, h7, h8, h9, h10⟩ := h
  exact ⟨c, k, i, f, a, cell, h1, h2, h3, h4, h5, h6, h7, h8, h9, fun z => h10 (hAB _ z)⟩
theorem vx_L.word {C n d : String} {A : Nat → Prop} {s : State} {args : Array Value} (h : vx_L C n d A s s.heap) : (Cond.laysStatic C n d).before args s = true := by
  obtain ⟨c, k, i, f, a, cell, h1, h2, h3, h4, h5, h6, h7, h8, h9, -⟩ := h
  show (Cond.laysStatic C n d).holds args s none s [] = true
  exact Cond.laysStatic_of h1 h2 h3 h4 h5 h6 h7 h8 h9
/-- .. and what it holds: null or some reference -/
def vx_Zq (C n d : String) (A : Nat → Prop) (U : State) (H : Heap) : Prop := va_Zq C n d A U H ∧ vx_L C n d A U H
theorem vx_Zq.moved {C n d : String} {A : Nat → Prop} {u U : State} {H : Heap} (hvm : u.vm.Alike U.vm) (h : vx_Zq C n d A u H) : vx_Zq C n d A U H := ⟨va_Zq.moved hvm h.1, vx_L.moved hvm h.2⟩
theorem vx_Zq.kept {C n d : String} {A : Nat → Prop} {U : State} {H H1 : Heap} (h : vx_Zq C n d A U H) (hq : ∀ a : Nat, a < H.size → ¬ A a → H1[a]? = H[a]?) : vx_Zq C n d A U H1 := ⟨va_Zq.kept h.1 hq, vx_L.kept h.2 hq⟩
theorem vx_Zq.narrow {C n d : String} {A B : Nat → Prop} {U : State} {H : Heap} (h : vx_Zq C n d A U H) (hAB : ∀ q, B q → A q) : vx_Zq C n d B U H := ⟨va_Zq.narrow h.1 hAB, vx_L.narrow h.2 hAB⟩
theorem vx_Zqof {args : Array Value} {s : State} {C n d : String} {A : Nat → Prop} (hl : (Cond.laysStatic C n d).before args s = true) (hini : (Cond.initialized C).before args s = true) (h : (Cond.isRef (.static C n d)).before args s = true) (hA : ∀ a : Nat, a < s.heap.size → ¬ A a) : vx_Zq C n d A s s.heap := by
  refine ⟨va_Zqof hl hini h hA, ?_⟩
  obtain ⟨c, k, i, f, a, cell, h1, h2, h3, h4, h5, h6, h7, h8, h9⟩ := Cond.laysStatic_spec hl
  exact ⟨c, k, i, f, a, cell, h1, h2, h3, h4, h5, h6, h7, h8, h9, hA a (Array.getElem?_eq_some_iff.mp h5).1⟩
theorem vx_isRef {C n d : String} {v : Value} {A : Nat → Prop} {s : State} {args : Array Value} (h : va_Z C n d v A s s.heap) (hv : v.isRef = true) : (Cond.isRef (.static C n d)).before args s = true := by
  obtain ⟨cf, kf, fi, f, a, cell, h1, h2, h3, h4, h5, h6, h7, -⟩ := h
  have he : (Term.static C n d).eval args s none [] s = some v := by
    simp [Term.eval, State.fieldNamed?, h1, h2, h4, h5, h6, h7]
  simp only [Cond.before, Cond.holds, Cond.value, he]
  cases v <;> simp_all [Value.isRef]
theorem vx_isRefq {C n d : String} {A : Nat → Prop} {s : State} {args : Array Value} (h : va_Zq C n d A s s.heap) : (Cond.isRef (.static C n d)).before args s = true := by
  rcases h with h | ⟨t, h⟩
  · exact vx_isRef h rfl
  · exact vx_isRef h rfl
/-- the same frame, seen from here: as if the method were called anew in this heap -/
theorem vx_rebase {T : State} (X : Stand p l e R s m args below meth c T locs cells slots) {R' : Room} (hf : R'.frames ≤ R.frames) (hl : R'.locals ≤ R.locals) (hc : cells + R'.cells ≤ R.cells) (hs : slots + R'.slots ≤ R.slots) :
    Stand p l e R' ((T.setVm s.vm).setFrames (.invoking m args :: below)) m args below meth c T [] 0 0 := by
  have htop : (T.setVm s.vm).topJava?.isSome := X.here.top
  have hF : ((T.setVm s.vm).setFrames (.invoking m args :: below)).frames = .invoking m args :: below := State.frames_setFrames _ (State.cur_lt_of_top htop)
  obtain ⟨g₀, hg0⟩ := Option.isSome_iff_exists.mp htop
  obtain ⟨r, hr⟩ := State.topJava?_eq_some.mp hg0
  have hl9 : e.platform.stackLimits (T.setVm s.vm).me = e.platform.stackLimits s.me := X.limits
  have hb9 : (T.setVm s.vm).me.stackBytes = s.me.stackBytes := X.bytes
  refine ⟨X.admits, X.cas, X.clock, hF, ?_, X.hears, X.method, X.code, X.here, X.tail, X.warmed, ?_, ?_, ?_⟩
  · have h := X.room
    have hU : ((T.setVm s.vm).setFrames (.invoking m args :: below)).localsInUse = s.localsInUse := by
      rw [State.localsInUse_invoking hF (meth := meth) (c := c) X.method X.code, State.localsInUse_invoking X.frames X.method X.code]
    simp only [State.hasRoom, Bool.and_eq_true, decide_eq_true_eq] at h ⊢
    obtain ⟨⟨⟨⟨h1, h2, h3, h4, h5, h6⟩, h7⟩, h8⟩, h9⟩ := h
    rw [X.frames, List.length_cons] at h2 h3
    have q1 := X.heapSize
    have q2 := X.used
    simp only [hF, hU, List.length_cons, State.stackLimits_setFrames, State.stackBytes_setFrames, hl9, hb9]
    refine ⟨⟨⟨⟨by omega, by omega, by omega, by omega, by omega, h6⟩, ?_⟩, ?_⟩, X.book⟩
    · show T.heap.size + R'.cells ≤ e.platform.maxCells
      omega
    · show T.slotsUsed + R'.slots ≤ e.platform.maxSlots
      omega
  · rw [State.stackLimits_setFrames]; rfl
  · rw [State.stackBytes_setFrames]; rfl
  · refine ⟨?_, Nat.le_refl _, Nat.le_refl _, ?_, ?_, fun a c9 h9 => ⟨c9, h9, rfl, rfl, fun _ _ => rfl⟩⟩
    · obtain ⟨t, ht, -⟩ := State.frames_cons hr
      show T.setVm s.vm = { ((T.setVm s.vm).setFrames (.invoking m args :: below)).setFrames (T.setVm s.vm).frames with heap := T.heap, slotsUsed := T.slotsUsed }
      rw [State.setFrames_setFrames, State.setFrames_self ht]
      rfl
    · show T.slotsUsed = T.slotsUsed + ((T.heap.toList.drop T.heap.size).map (·.slots.size)).sum
      rw [List.drop_eq_nil_of_le (Nat.le_of_eq Array.length_toList)]
      rfl
    · show ((T.heap.toList.drop T.heap.size).map (·.slots.size)).sum ≤ 0
      rw [List.drop_eq_nil_of_le (Nat.le_of_eq Array.length_toList)]
      exact Nat.le_refl _
/-- 'throw new E()': new; dup; invokespecial; athrow -/
theorem vx_throw0 {cc : ByteArray} {pc : Nat} (hexec : p.tables.exec = Jvm.exec) (hb : c.code = cc) (hl : l.stackTraces = false) {own cls : String} {names : List String} {ik ic mc ms : Nat} {A : Nat → Prop}
    (hown : s.vm.findClass own = some m.cls) (hcls : Bundle.fit cls = true) (hnames : ∀ n ∈ names, Bundle.fit n = true)
    (hk : (Cond.classLink own ik cls).before args s = true) (hini : (Cond.initialized cls).before args s = true) (hat : ∀ w ∈ vx_at0 own ic cls names, w.before args s = true)
    (hgood : ∀ w ∈ Cond.classLink own ik cls :: Cond.initialized cls :: vx_at0 own ic cls names, vx_ot w = true)
    (hU : vx_Zq Bundle.tN "UNASSIGNED_STACK" Bundle.steD A s s.heap) (hN : vx_Zq Bundle.tN "SUPPRESSED_SENTINEL" Bundle.listD A s s.heap) (hS : va_S A s.heap H locs) (hsize : ls.size = c.maxLocals)
    (d0 : decode cc pc = .ok (.new ik, 3)) (d3 : decode cc (pc + 3) = .ok (.dup, 1)) (d4 : decode cc (pc + 4) = .ok (.invokespecial ic, 3)) (d7 : decode cc (pc + 7) = .ok (.athrow, 1))
    (hout : ∀ x ∈ c.exceptionTable.toList, covers x (pc + 7) = false)
    (hRframes : names.length + 3 < R.frames) (hRlocals : (rest.map fun v => v.category).sum + (13 * (names.length + 1) + 42) ≤ R.locals) (hRcells : cells + 1 ≤ R.cells) (hRslots : slots + 6 ≤ R.slots) (hlocks : meth.locks = false)
    (hx : ∀ t : State, s.vm.Alike t.vm → H.size ≤ t.heap.size → (∀ q : Nat, q < H.size → t.heap[q]? = H[q]?) → XC cls s t)
    (hf : ∀ z ∈ locs, free z.base) (hc : cells + 1 ≤ mc) (hs : slots + 6 ≤ ms) :
    W p l e R s m args below meth c H locs cells slots (vx_MQ below Qc XC args s mc ms free) (F0 m pc ls rest) := by
  intro T hT X
  have htr : e.platform.stackTraces = false := (show e.platform.stackTraces = l.stackTraces by rw [X.admits.platform]).trans hl
  have Y := vx_rebase X (R' := { frames := R.frames, locals := R.locals, cells := 1, slots := 6 }) (Nat.le_refl _) (Nat.le_refl _) hRcells hRslots
  obtain ⟨s', hA⟩ : ∃ z, z = (T.setVm s.vm).setFrames (.invoking m args :: below) := ⟨_, rfl⟩
  rw [← hA] at Y
  have hvm : s'.vm = s.vm := by rw [hA]; rfl
  have hhp : s'.heap = H := by rw [hA]; exact hT
  have hW0 : s.WarmedH s'.vm := by rw [hvm]; exact State.WarmedH.refl s
  have hat' : ∀ w ∈ vx_at0 own ic cls names, w.before args s' = true := fun w hw => vx_ot_at hW0 hvm.symm (hgood w (List.mem_cons_of_mem _ (List.mem_cons_of_mem _ hw))) (hat w hw)
  have hk' : (Cond.classLink own ik cls).before args s' = true := vx_ot_at hW0 hvm.symm (hgood _ List.mem_cons_self) hk
  have hini' : (Cond.initialized cls).before args s' = true := vx_ot_at hW0 hvm.symm (hgood _ (List.mem_cons_of_mem _ List.mem_cons_self)) hini
  have hU' : vx_Zq Bundle.tN "UNASSIGNED_STACK" Bundle.steD A s' s'.heap := by rw [hhp]; exact vx_Zq.moved hW0.alike (hU.kept hS.2.1)
  have hN' : vx_Zq Bundle.tN "SUPPRESSED_SENTINEL" Bundle.listD A s' s'.heap := by rw [hhp]; exact vx_Zq.moved hW0.alike (hN.kept hS.2.1)
  have h : ∀ w ∈ Bundle.ownAtoms0 own ic cls names, w.before args s' = true := vx_own hat' (vx_isRefq hU'.1) (vx_isRefq hN'.1) hU'.2.word hN'.2.word
  have hown' : s'.vm.findClass own = some m.cls := by rw [hvm]; exact hown
  have hins : (Cond.instantiable cls 6).before args s' = true := h _ (by simp [Bundle.ownAtoms0])
  obtain ⟨vm₁, cX, kX, hfX, hkX, -, -, X₁, st1⟩ := Y.newCold hexec (own := own) (C := cls) (index := ik) (n := 6) hown' hk' hins hini'
    (g := F0 m pc ls rest) rfl (by rw [hb]; exact d0) (Nat.le_refl _) (Nat.le_refl _)
  generalize hT1 : (T.setVm vm₁).pushCell { cls := cX, slots := kX.instanceTypes.map defaultValue, vm := .none } = T1 at X₁ st1
  have hcat : (Value.ref T.heap.size).category = 1 := rfl
  have hcellA : T1.heap[T.heap.size]? = some (freshCell cX kX) := by rw [← hT1]; exact State.heap_pushCell_size _ _
  have d3' : decode c.code (pc + 3) = .ok (.dup, 1) := by rw [hb]; exact d3
  obtain ⟨U, hsteps, hrun, hend, hW, hsame, ce, hce, hO⟩ := X₁.ctorThrow0 hexec htr (own := own) (cls := cls) (names := names) (ic := ic) hown' hcls hnames h (fun x hx => nomatch hx) hfX hkX hcellA (by rw [hhp, hT]; exact Nat.le_refl _)
    (g := { method := m, pc := pc + 4, locals := ls, stack := .ref T.heap.size :: .ref T.heap.size :: rest, locked := none }) rfl hsize rfl rfl (rest := rest) rfl
    (by rw [hb]; exact d4) (by rw [hb]; exact d7) hout hRframes (by simp only [List.map_cons, List.sum_cons, hcat]; omega) hlocks
  obtain ⟨f1, f2⟩ := vx_frame hsame
  rw [hhp] at f1 f2
  have hWs : s.WarmedH U.vm := State.WarmedH.trans hW0 hW
  have hcl : s.vm.findClass cls = some ce.cls := by
    have h9 := hO.cls
    rw [hvm] at h9
    exact h9
  have hall : s.sameButNew ({ U with vm := s.vm } : State) locs mc ms := by
    subst hA
    obtain ⟨e1, e2⟩ := hsame
    rw [State.setFrames_setFrames] at e1
    have h2 : (T.setVm s.vm).sameButNew ({ U with vm := s.vm } : State) [] (0 + 1) (0 + 6) := ⟨e1, e2⟩
    have h3 := X.same.trans h2
    rw [List.append_nil] at h3
    exact h3.mono hc hs
  refine ⟨U, ?_, .threw T.heap.size, hrun, hend, Or.inr ⟨T.heap.size, rfl, cls, ce, locs, hx U hWs.alike f1 (fun q hq => f2 q hq (fun z hz => nomatch hz)), hce, hO.vm, hcl, hWs, hall, hf⟩⟩
  refine st1 _ ?_
  show Steps p.tables e below (T1.setTop { method := m, pc := pc + 3, locals := ls, stack := .ref T.heap.size :: rest, locked := none }) _
  jvm_step X₁.here [X₁.here.top, hexec, d3', Value.category]
  exact hsteps
/-- 'throw new E("text")': new; dup; ldc; invokespecial; athrow -/
theorem vx_throwS {cc : ByteArray} {pc : Nat} (hexec : p.tables.exec = Jvm.exec) (hb : c.code = cc) (hl : l.stackTraces = false) {own cls text : String} {names : List String} {ik is ic mc ms sa : Nat} {A : Nat → Prop}
    (hown : s.vm.findClass own = some m.cls) (hcls : Bundle.fit cls = true) (hnames : ∀ n ∈ names, Bundle.fit n = true)
    (hk : (Cond.classLink own ik cls).before args s = true) (hini : (Cond.initialized cls).before args s = true) (hstr : vk_R own is text sa s) (hat : ∀ w ∈ vx_atS own ic cls names, w.before args s = true)
    (hgood : ∀ w ∈ Cond.classLink own ik cls :: Cond.initialized cls :: vx_atS own ic cls names, vx_ot w = true)
    (hU : vx_Zq Bundle.tN "UNASSIGNED_STACK" Bundle.steD A s s.heap) (hN : vx_Zq Bundle.tN "SUPPRESSED_SENTINEL" Bundle.listD A s s.heap) (hS : va_S A s.heap H locs) (hsize : ls.size = c.maxLocals)
    (d0 : decode cc pc = .ok (.new ik, 3)) (d3 : decode cc (pc + 3) = .ok (.dup, 1)) (d4 : decode cc (pc + 4) = .ok (.ldc is, 2)) (d6 : decode cc (pc + 6) = .ok (.invokespecial ic, 3)) (d9 : decode cc (pc + 9) = .ok (.athrow, 1))
    (hout : ∀ x ∈ c.exceptionTable.toList, covers x (pc + 9) = false)
    (hRframes : names.length + 3 < R.frames) (hRlocals : (rest.map fun v => v.category).sum + (13 * (names.length + 1) + 43) ≤ R.locals) (hRcells : cells + 1 ≤ R.cells) (hRslots : slots + 6 ≤ R.slots) (hlocks : meth.locks = false)
    (hx : ∀ t : State, s.vm.Alike t.vm → H.size ≤ t.heap.size → (∀ q : Nat, q < H.size → t.heap[q]? = H[q]?) → XC cls s t)
    (hf : ∀ z ∈ locs, free z.base) (hc : cells + 1 ≤ mc) (hs : slots + 6 ≤ ms) :
    W p l e R s m args below meth c H locs cells slots (vx_MQ below Qc XC args s mc ms free) (F0 m pc ls rest) := by
  intro T hT X
  have htr : e.platform.stackTraces = false := (show e.platform.stackTraces = l.stackTraces by rw [X.admits.platform]).trans hl
  have Y := vx_rebase X (R' := { frames := R.frames, locals := R.locals, cells := 1, slots := 6 }) (Nat.le_refl _) (Nat.le_refl _) hRcells hRslots
  obtain ⟨s', hA⟩ : ∃ z, z = (T.setVm s.vm).setFrames (.invoking m args :: below) := ⟨_, rfl⟩
  rw [← hA] at Y
  have hvm : s'.vm = s.vm := by rw [hA]; rfl
  have hhp : s'.heap = H := by rw [hA]; exact hT
  have hW0 : s.WarmedH s'.vm := by rw [hvm]; exact State.WarmedH.refl s
  have hat' : ∀ w ∈ vx_atS own ic cls names, w.before args s' = true := fun w hw => vx_ot_at hW0 hvm.symm (hgood w (List.mem_cons_of_mem _ (List.mem_cons_of_mem _ hw))) (hat w hw)
  have hk' : (Cond.classLink own ik cls).before args s' = true := vx_ot_at hW0 hvm.symm (hgood _ List.mem_cons_self) hk
  have hini' : (Cond.initialized cls).before args s' = true := vx_ot_at hW0 hvm.symm (hgood _ (List.mem_cons_of_mem _ List.mem_cons_self)) hini
  have hU' : vx_Zq Bundle.tN "UNASSIGNED_STACK" Bundle.steD A s' s'.heap := by rw [hhp]; exact vx_Zq.moved hW0.alike (hU.kept hS.2.1)
  have hN' : vx_Zq Bundle.tN "SUPPRESSED_SENTINEL" Bundle.listD A s' s'.heap := by rw [hhp]; exact vx_Zq.moved hW0.alike (hN.kept hS.2.1)
  have h : ∀ w ∈ Bundle.ownAtoms own ic cls names, w.before args s' = true := vx_own hat' (vx_isRefq hU'.1) (vx_isRefq hN'.1) hU'.2.word hN'.2.word
  have hown' : s'.vm.findClass own = some m.cls := by rw [hvm]; exact hown
  have hins : (Cond.instantiable cls 6).before args s' = true := h _ (by simp [Bundle.ownAtoms])
  obtain ⟨vm₁, cX, kX, hfX, hkX, -, -, X₁, st1⟩ := Y.newCold hexec (own := own) (C := cls) (index := ik) (n := 6) hown' hk' hins hini'
    (g := F0 m pc ls rest) rfl (by rw [hb]; exact d0) (Nat.le_refl _) (Nat.le_refl _)
  generalize hT1 : (T.setVm vm₁).pushCell { cls := cX, slots := kX.instanceTypes.map defaultValue, vm := .none } = T1 at X₁ st1
  have hcat : (Value.ref T.heap.size).category = 1 := rfl
  have hcellA : T1.heap[T.heap.size]? = some (freshCell cX kX) := by rw [← hT1]; exact State.heap_pushCell_size _ _
  have d3' : decode c.code (pc + 3) = .ok (.dup, 1) := by rw [hb]; exact d3
  have d4' : decode c.code (pc + 4) = .ok (.ldc is, 2) := by rw [hb]; exact d4
  have hstr' : vk_R own is text sa s' := vk_R.warm hW0 hstr
  obtain ⟨U, hsteps, hrun, hend, hW, hsame, ce, hce, hO⟩ := X₁.ctorThrowS hexec htr (own := own) (cls := cls) (names := names) (ic := ic) hown' hcls hnames h (fun x hx => nomatch hx) hfX hkX hcellA (by rw [hhp, hT]; exact Nat.le_refl _) (msg := .ref sa) rfl
    (g := { method := m, pc := pc + 6, locals := ls, stack := .ref sa :: .ref T.heap.size :: .ref T.heap.size :: rest, locked := none }) rfl hsize rfl rfl (rest := rest) rfl
    (by rw [hb]; exact d6) (by rw [hb]; exact d9) hout hRframes (by simp only [List.map_cons, List.sum_cons, hcat]; omega) hlocks
  obtain ⟨f1, f2⟩ := vx_frame hsame
  rw [hhp] at f1 f2
  have hWs : s.WarmedH U.vm := State.WarmedH.trans hW0 hW
  have hcl : s.vm.findClass cls = some ce.cls := by
    have h9 := hO.cls
    rw [hvm] at h9
    exact h9
  have hall : s.sameButNew ({ U with vm := s.vm } : State) locs mc ms := by
    subst hA
    obtain ⟨e1, e2⟩ := hsame
    rw [State.setFrames_setFrames] at e1
    have h2 : (T.setVm s.vm).sameButNew ({ U with vm := s.vm } : State) [] (0 + 1) (0 + 6) := ⟨e1, e2⟩
    have h3 := X.same.trans h2
    rw [List.append_nil] at h3
    exact h3.mono hc hs
  refine ⟨U, ?_, .threw T.heap.size, hrun, hend, Or.inr ⟨T.heap.size, rfl, cls, ce, locs, hx U hWs.alike f1 (fun q hq => f2 q hq (fun z hz => nomatch hz)), hce, hO.vm, hcl, hWs, hall, hf⟩⟩
  refine st1 _ ?_
  show Steps p.tables e below (T1.setTop { method := m, pc := pc + 3, locals := ls, stack := .ref T.heap.size :: rest, locked := none }) _
  jvm_step X₁.here [X₁.here.top, hexec, d3', Value.category]
  exact X₁.ldcString hexec (own := own) (text := text) (index := is) (a := sa) hown' hstr'.1 hstr'.2
    (g := { method := m, pc := pc + 4, locals := ls, stack := .ref T.heap.size :: .ref T.heap.size :: rest, locked := none }) rfl d4' _ hsteps
/-- 'throw new E("text")', the text by a wide index -/
theorem vx_throwSW {cc : ByteArray} {pc : Nat} (hexec : p.tables.exec = Jvm.exec) (hb : c.code = cc) (hl : l.stackTraces = false) {own cls text : String} {names : List String} {ik is ic mc ms sa : Nat} {A : Nat → Prop}
    (hown : s.vm.findClass own = some m.cls) (hcls : Bundle.fit cls = true) (hnames : ∀ n ∈ names, Bundle.fit n = true)
    (hk : (Cond.classLink own ik cls).before args s = true) (hini : (Cond.initialized cls).before args s = true) (hstr : vk_R own is text sa s) (hat : ∀ w ∈ vx_atS own ic cls names, w.before args s = true)
    (hgood : ∀ w ∈ Cond.classLink own ik cls :: Cond.initialized cls :: vx_atS own ic cls names, vx_ot w = true)
    (hU : vx_Zq Bundle.tN "UNASSIGNED_STACK" Bundle.steD A s s.heap) (hN : vx_Zq Bundle.tN "SUPPRESSED_SENTINEL" Bundle.listD A s s.heap) (hS : va_S A s.heap H locs) (hsize : ls.size = c.maxLocals)
    (d0 : decode cc pc = .ok (.new ik, 3)) (d3 : decode cc (pc + 3) = .ok (.dup, 1)) (d4 : decode cc (pc + 4) = .ok (.ldc_w is, 3)) (d7 : decode cc (pc + 7) = .ok (.invokespecial ic, 3)) (d10 : decode cc (pc + 10) = .ok (.athrow, 1))
    (hout : ∀ x ∈ c.exceptionTable.toList, covers x (pc + 10) = false)
    (hRframes : names.length + 3 < R.frames) (hRlocals : (rest.map fun v => v.category).sum + (13 * (names.length + 1) + 43) ≤ R.locals) (hRcells : cells + 1 ≤ R.cells) (hRslots : slots + 6 ≤ R.slots) (hlocks : meth.locks = false)
    (hx : ∀ t : State, s.vm.Alike t.vm → H.size ≤ t.heap.size → (∀ q : Nat, q < H.size → t.heap[q]? = H[q]?) → XC cls s t)
    (hf : ∀ z ∈ locs, free z.base) (hc : cells + 1 ≤ mc) (hs : slots + 6 ≤ ms) :
    W p l e R s m args below meth c H locs cells slots (vx_MQ below Qc XC args s mc ms free) (F0 m pc ls rest) := by
  intro T hT X
  have htr : e.platform.stackTraces = false := (show e.platform.stackTraces = l.stackTraces by rw [X.admits.platform]).trans hl
  have Y := vx_rebase X (R' := { frames := R.frames, locals := R.locals, cells := 1, slots := 6 }) (Nat.le_refl _) (Nat.le_refl _) hRcells hRslots
  obtain ⟨s', hA⟩ : ∃ z, z = (T.setVm s.vm).setFrames (.invoking m args :: below) := ⟨_, rfl⟩
  rw [← hA] at Y
  have hvm : s'.vm = s.vm := by rw [hA]; rfl
  have hhp : s'.heap = H := by rw [hA]; exact hT
  have hW0 : s.WarmedH s'.vm := by rw [hvm]; exact State.WarmedH.refl s
  have hat' : ∀ w ∈ vx_atS own ic cls names, w.before args s' = true := fun w hw => vx_ot_at hW0 hvm.symm (hgood w (List.mem_cons_of_mem _ (List.mem_cons_of_mem _ hw))) (hat w hw)
  have hk' : (Cond.classLink own ik cls).before args s' = true := vx_ot_at hW0 hvm.symm (hgood _ List.mem_cons_self) hk
  have hini' : (Cond.initialized cls).before args s' = true := vx_ot_at hW0 hvm.symm (hgood _ (List.mem_cons_of_mem _ List.mem_cons_self)) hini
  have hU' : vx_Zq Bundle.tN "UNASSIGNED_STACK" Bundle.steD A s' s'.heap := by rw [hhp]; exact vx_Zq.moved hW0.alike (hU.kept hS.2.1)
  have hN' : vx_Zq Bundle.tN "SUPPRESSED_SENTINEL" Bundle.listD A s' s'.heap := by rw [hhp]; exact vx_Zq.moved hW0.alike (hN.kept hS.2.1)
  have h : ∀ w ∈ Bundle.ownAtoms own ic cls names, w.before args s' = true := vx_own hat' (vx_isRefq hU'.1) (vx_isRefq hN'.1) hU'.2.word hN'.2.word
  have hown' : s'.vm.findClass own = some m.cls := by rw [hvm]; exact hown
  have hins : (Cond.instantiable cls 6).before args s' = true := h _ (by simp [Bundle.ownAtoms])
  obtain ⟨vm₁, cX, kX, hfX, hkX, -, -, X₁, st1⟩ := Y.newCold hexec (own := own) (C := cls) (index := ik) (n := 6) hown' hk' hins hini'
    (g := F0 m pc ls rest) rfl (by rw [hb]; exact d0) (Nat.le_refl _) (Nat.le_refl _)
  generalize hT1 : (T.setVm vm₁).pushCell { cls := cX, slots := kX.instanceTypes.map defaultValue, vm := .none } = T1 at X₁ st1
  have hcat : (Value.ref T.heap.size).category = 1 := rfl
  have hcellA : T1.heap[T.heap.size]? = some (freshCell cX kX) := by rw [← hT1]; exact State.heap_pushCell_size _ _
  have d3' : decode c.code (pc + 3) = .ok (.dup, 1) := by rw [hb]; exact d3
  have d4' : decode c.code (pc + 4) = .ok (.ldc_w is, 3) := by rw [hb]; exact d4
  have hstr' : vk_R own is text sa s' := vk_R.warm hW0 hstr
  obtain ⟨U, hsteps, hrun, hend, hW, hsame, ce, hce, hO⟩ := X₁.ctorThrowS hexec htr (own := own) (cls := cls) (names := names) (ic := ic) hown' hcls hnames h (fun x hx => nomatch hx) hfX hkX hcellA (by rw [hhp, hT]; exact Nat.le_refl _) (msg := .ref sa) rfl
    (g := { method := m, pc := pc + 7, locals := ls, stack := .ref sa :: .ref T.heap.size :: .ref T.heap.size :: rest, locked := none }) rfl hsize rfl rfl (rest := rest) rfl
    (by rw [hb]; exact d7) (by rw [hb]; exact d10) hout hRframes (by simp only [List.map_cons, List.sum_cons, hcat]; omega) hlocks
  obtain ⟨f1, f2⟩ := vx_frame hsame
  rw [hhp] at f1 f2
  have hWs : s.WarmedH U.vm := State.WarmedH.trans hW0 hW
  have hcl : s.vm.findClass cls = some ce.cls := by
    have h9 := hO.cls
    rw [hvm] at h9
    exact h9
  have hall : s.sameButNew ({ U with vm := s.vm } : State) locs mc ms := by
    subst hA
    obtain ⟨e1, e2⟩ := hsame
    rw [State.setFrames_setFrames] at e1
    have h2 : (T.setVm s.vm).sameButNew ({ U with vm := s.vm } : State) [] (0 + 1) (0 + 6) := ⟨e1, e2⟩
    have h3 := X.same.trans h2
    rw [List.append_nil] at h3
    exact h3.mono hc hs
  refine ⟨U, ?_, .threw T.heap.size, hrun, hend, Or.inr ⟨T.heap.size, rfl, cls, ce, locs, hx U hWs.alike f1 (fun q hq => f2 q hq (fun z hz => nomatch hz)), hce, hO.vm, hcl, hWs, hall, hf⟩⟩
  refine st1 _ ?_
  show Steps p.tables e below (T1.setTop { method := m, pc := pc + 3, locals := ls, stack := .ref T.heap.size :: rest, locked := none }) _
  jvm_step X₁.here [X₁.here.top, hexec, d3', Value.category]
  exact X₁.ldcStringW hexec (own := own) (text := text) (index := is) (a := sa) hown' hstr'.1 hstr'.2
    (g := { method := m, pc := pc + 4, locals := ls, stack := .ref T.heap.size :: .ref T.heap.size :: rest, locked := none }) rfl d4' _ hsteps
end Ends
section Bodies
variable {l : Launch}
theorem vx_ofW {y : MethodName} {ws ws' : List Cond} {rm : Room} {Pc : Array Value → State → Prop} {Qc : Array Value → State → Outcome → State → Prop} {XC : String → State → State → Prop} {mc ms : Nat} {free : Addr → Prop} {cc : ByteArray} {maxL : Nat} {ret : Option FieldType}
    (hy : plainName y.cls = true) (hw : ws = Cond.code y cc maxL ret :: ws')
    (body : ∀ p e s m args below meth c s₁, BodyLoose p l y (headSpec ws rm) cc maxL ret e s m args below meth c s₁ → c.maxLocals = maxL → (∀ x ∈ c.exceptionTable.toList, False) → Pc args s →
      W p l e (headSpec ws rm).room s m args below meth c s.heap [] 0 0 (vx_MQ below Qc XC args s mc ms free) (entryFrame m args maxL)) : vx_Met l y ws rm Pc Qc XC mc ms free := by
  refine MetFree.of_bodyS (code := cc) (maxLocals := maxL) (ret := ret) hy ?_ ?_
  · intro args s m h hn
    obtain ⟨meth, c, h1, h2, h3, h4, h5, h6, -, -⟩ := Cond.code_spec hn (atoms_spec (ws := ws) h _ (by rw [hw]; exact List.mem_cons_self))
    exact ⟨meth, c, h1, h2, h3, h4, h5, h6⟩
  · intro p e s m args below meth c s₁ B hml hP _
    have hh0 : s₁.heap = s.heap := by rw [B.state]; rfl
    have ht : ∀ x ∈ c.exceptionTable.toList, False := by
      obtain ⟨meth9, c9, h1, h2, -, -, -, -, h7, -⟩ := Cond.code_spec B.named (atoms_spec (ws := ws) B.pre _ (by rw [hw]; exact List.mem_cons_self))
      cases Option.some.inj (h1.symm.trans B.method)
      cases Option.some.inj (h2.symm.trans (Stand.of_body B).code)
      intro x hx
      rw [Array.isEmpty_iff.mp h7] at hx
      cases hx
    obtain ⟨t, a1, o, b1, b2, b3⟩ := body p e s m args below meth c s₁ B hml ht hP s₁ hh0 (Stand.of_body B)
    exact ⟨t, o, a1, b1, b2, b3⟩
/-- the table of a body with handlers -/
theorem vx_table {p : Program} {x y : MethodName} {S : Spec} {cc bytes : ByteArray} {maxL maxL' : Nat} {ret ret' : Option FieldType} {e : Env} {s s₁ : State} {m : MethodId} {args : Array Value} {below : List Frame} {meth : Method} {c : Code} {hh : List (Nat × Nat × Nat × Nat)}
    (B : BodyLoose p l y S cc maxL ret e s m args below meth c s₁) (h : (Cond.codeWith y bytes maxL' ret' hh).before args s = true) : c.exceptionTable.toList = tableOf hh := by
  obtain ⟨m9, meth9, c9, hn9, h1, h2, -, -, h6, -⟩ := Cond.codeWith_spec h
  cases Option.some.inj (hn9.symm.trans B.named)
  cases Option.some.inj (h1.symm.trans B.method)
  cases Option.some.inj (h2.symm.trans (Stand.of_body B).code)
  rw [← h6, table_eq]
end Bodies
end VXA
/-! ===== END ===== -/
/-! ===== BEGIN a static call of a method with an exception table ===== -/
section VXS
variable {p : Program} {l : Launch} {e : Env} {R : Room} {s : State} {m : MethodId} {args : Array Value} {below : List Frame} {meth : Method} {c : Code} {T : State} {H : Heap} {locs : List Loc} {cells slots : Nat}
abbrev vx_CSW (R : Room) (s : State) (args : Array Value) (own : String) (index : Nat) (y : MethodName) (bytes : ByteArray) (maxL : Nat) (ret : Option FieldType) (hh : List (Nat × Nat × Nat × Nat)) (ws : List Cond) (rm : Room) (mc ms n : Nat) : Prop :=
  (rm.cells = mc ∧ rm.slots = ms ∧ rm.frames + 1 ≤ R.frames ∧ 8 + (maxL + 11) + rm.locals ≤ R.locals ∧ (∀ w ∈ ws, ∀ (a' : Array Value) (U : State), s.WarmedH U.vm → w.before a' U = true) ∧ Cond.codeWith y bytes maxL ret hh ∈ ws) ∧
  (Cond.codeWith y bytes maxL ret hh).before args s = true ∧ (Cond.initialized y.cls).before args s = true ∧ (y.cls ≠ "java/lang/invoke/MethodHandle" ∧ y.cls ≠ "java/lang/invoke/VarHandle") ∧
  (∀ sig, parseMethodDescriptor y.desc = some sig → n = sig.parameters.length) ∧ (Cond.methodLink own index y).before args s = true ∧ (Cond.static y).before args s = true
theorem vx_cwSW {own : String} {index maxL mc ms : Nat} {y : MethodName} {bytes : ByteArray} {ret : Option FieldType} {hh : List (Nat × Nat × Nat × Nat)} {Ts ws ws' : List Cond} {rm : Room} (n : Nat) (ht : ∀ w ∈ Ts, w.before args s = true) (hT : GoodIn Ts (va_wsS own index y ws)) (hw : ws = Cond.codeWith y bytes maxL ret hh :: ws') (hrc : rm.cells = mc) (hrs : rm.slots = ms)
    (hd : y.cls ≠ "java/lang/invoke/MethodHandle" ∧ y.cls ≠ "java/lang/invoke/VarHandle" ∧ (parseMethodDescriptor y.desc).map (fun d => d.parameters.length) = some n) (hR : rm.frames + 1 ≤ R.frames ∧ 8 + (maxL + 11) + rm.locals ≤ R.locals) :
    vx_CSW R s args own index y bytes maxL ret hh ws rm mc ms n := by
  have ok : ∀ w ∈ va_wsS own index y ws, w.before args s = true := fun w h => ht w (hT w h).1
  have hG : GoodIn Ts ws := fun w h => hT w (by unfold va_wsS; exact List.mem_append_right _ h)
  have hc : Cond.codeWith y bytes maxL ret hh ∈ ws := by rw [hw]; exact List.mem_cons_self
  refine ⟨⟨hrc, hrs, hR.1, hR.2, pay_in ht hG, hc⟩, ht _ (hG _ hc).1, ok _ (by simp [va_wsS]), ⟨hd.1, hd.2.1⟩, fun sig h => ?_, ok _ (by simp [va_wsS]), ok _ (by simp [va_wsS])⟩
  have h2 := hd.2.2
  rw [h] at h2
  exact (Option.some.inj h2).symm
theorem vx_callSW (X : Stand p l e R s m args below meth c T locs cells slots) (hexec : p.tables.exec = Jvm.exec) {own : String} {index : Nat} {y : MethodName} {bytes : ByteArray} {maxL : Nat} {ret : Option FieldType} {hh : List (Nat × Nat × Nat × Nat)}
    (hown : s.vm.findClass own = some m.cls) (hlink : (Cond.methodLink own index y).before args s = true) (hstat : (Cond.static y).before args s = true) (hinit : (Cond.initialized y.cls).before args s = true)
    (hcode : (Cond.codeWith y bytes maxL ret hh).before args s = true) (hy : y.cls ≠ "java/lang/invoke/MethodHandle" ∧ y.cls ≠ "java/lang/invoke/VarHandle")
    {W9 : Nat} {Pre : Pt → Array Value → Prop} {Post : Pt → Array Value → Option Value → Pt → Prop} (hK : Back l R p e below s args y 3 W9 Pre Post)
    {g : JFrame} (hg : g.method = m) (hsize : g.locals.size = c.maxLocals) {argsL rest : List Value} (hlen : ∀ sig, parseMethodDescriptor y.desc = some sig → argsL.length = sig.parameters.length)
    (hstack : g.stack = argsL.reverse ++ rest) (hW : 2 * g.monitorRoom + (rest.map fun v => v.category).sum ≤ W9) (hdg : decode c.code g.pc = .ok (.invokestatic index, 3))
    (hpre : ∀ vm₁, s.WarmedH vm₁ → Pre ⟨T.setVm vm₁, locs, cells, slots⟩ argsL.toArray) :
    ∃ (v : Option Value) (vm₁ : Vm) (B : Pt), s.WarmedH vm₁ ∧ Stand p l e R s m args below meth c B.U B.locs B.cells B.slots ∧ Post ⟨T.setVm vm₁, locs, cells, slots⟩ argsL.toArray v B ∧
      ∀ target, Steps p.tables e below (B.U.setTop { g with pc := g.pc + 3, stack := v.toList ++ rest }) target → Steps p.tables e below (T.setTop g) target := by
  obtain ⟨mk, methM, cM, hnamed, hmethM, -, -, -, -, -, -, hsigM⟩ := Cond.codeWith_spec hcode
  have hstatic : methM.isStatic = true := Cond.static_spec hnamed hmethM hstat
  obtain ⟨kP, hkP, -⟩ := className_of_methodNamed hnamed
  have hinitP : kP.init = .initialized := Cond.initialized_spec (findClass_of_methodNamed hnamed) hkP hinit
  obtain ⟨vm₁, X₁, hstep₁⟩ := X.invokestatic hexec hown hlink hnamed hmethM hstatic hkP hinitP hy (g := g) hg (argsL := argsL) (rest := rest) (hlen _ hsigM) hstack hdg
  obtain ⟨v, B, X', hpost, hsteps⟩ := hK m meth c ⟨T.setVm vm₁, locs, cells, slots⟩ { g with stack := rest } (.invokestatic index) mk argsL.toArray X₁ hg hsize hdg hW (X₁.named hnamed) (hpre vm₁ X₁.warmed)
  exact ⟨v, vm₁, B, X₁.warmed, X', hpost, fun target h => hstep₁ _ fun acts => by rw [doInvoke_state]; exact hsteps.trans h⟩
theorem vx_runSW {y : MethodName} {bytes cc : ByteArray} {maxL nL mc ms n index : Nat} {ret : Option FieldType} {hh : List (Nat × Nat × Nat × Nat)} {ws : List Cond} {rm : Room} {Pc : Array Value → State → Prop} {Qc : Array Value → State → Outcome → State → Prop} {free : Addr → Prop} {Ts : List Cond} {own : String} {As rest : List Value} {g : JFrame}
    (S : CallFix p m c cc nL s args Ts own) (hM : Met l y ws rm Pc Qc mc ms free) (cw : vx_CSW R s args own index y bytes maxL ret hh ws rm mc ms n) (hp : PreS s H Pc As)
    (hg : g.method = m) (hn : As.length = n) (hsize : g.locals.size = nL) (hstack : g.stack = As.reverse ++ rest) (hW : 2 * g.monitorRoom + (rest.map fun v => v.category).sum ≤ 8) (hdg : decode cc g.pc = .ok (.invokestatic index, 3)) (hf : cells + mc ≤ R.cells ∧ slots + ms ≤ R.slots) :
    va_Run p l e R s m args below meth c H locs cells slots mc ms g rest (Qc As.toArray) (free) := by
  obtain ⟨⟨hrc, hrs, hfr, hlo, hws, hcw⟩, hcode, hini, hy, hlen, hl, hstt⟩ := cw
  have hK : Back l R p e below s args y 3 8 (PreOf R mc ms Pc) (PostOf Qc mc ms free) := va_backW (hh := hh) (bytes := bytes) (maxL := maxL) (ret := ret) hM hp.1 hrc hrs hfr hlo hws hcw (fun a' U hW => word_at hW (Or.inl (by first | rfl | simp [Cond.onTables, Cond.keeps, Cond.steady])) hini)
  obtain ⟨hx, hb, hml, ho, -⟩ := S
  intro T hT X
  obtain ⟨v, vm₁, ⟨U', l2, c2, s2⟩, hW₁, X', ⟨g', mk, t, L, e1, e2, hq, h1, hL, h2, h3⟩, st⟩ := vx_callSW X hx (hh := hh) (bytes := bytes) (maxL := maxL) (ret := ret) ho hl hstt hini hcode hy hK hg (hsize.trans hml.symm) (argsL := As) (rest := rest) (fun sig h => hn.trans (hlen sig h)) hstack hW (by rw [hb]; exact hdg)
    (fun vm₁ hW₁ => ⟨hf.1, hf.2, hp.2 (T.setVm vm₁) hT hW₁⟩)
  dsimp only [Pt.U, Pt.locs, Pt.cells, Pt.slots] at X' e1 e2 h1 h2 h3 st
  subst h1; subst h2; subst h3
  exact ⟨v, (T.setVm vm₁).calling g' mk As.toArray, t, U', L, hT, X', hL, e1, e2, hq, st⟩
/-- a thing of a world lies in the heap -/
theorem vx_lt {D : va_G} {cl : List vw_C} {ws : va_W} {H1 : Heap} (h : va_P D cl ws H1) {k : Nat} {q : Nat × va_E} (hk : ws[k]? = some q) : q.1 < H1.size := (h k q hk).lt
end VXS
/-! ===== END ===== -/
/-! ===== BEGIN methods with a table of their own: called by a name, returning or throwing ===== -/
section VXH
/-! vx_backW, vx_callVX, vx_callSX, vx_callVW, vx_runVW, vx_runVX, vx_runSX, vx_ofWH follow the same proofs as their sisters above (Free/Laws.lean, Shelf42/LK1.lean); vx_outP calls Shelf42/NT130.lean (outThrough). -/
section
variable {l : Launch} {R : Room} {p : Program} {e : Env} {below : List Frame} {s : State} {sargs : Array Value} {y : MethodName} {len W9 : Nat}
theorem vx_backW {ws : List Cond} {rm : Room} {Pc : Array Value → State → Prop} {Qc : Array Value → State → Outcome → State → Prop} {XC : String → State → State → Prop} {mc ms : Nat} {free : Addr → Prop} {bytes : ByteArray} {maxL : Nat} {ret : Option FieldType} {hh : List (Nat × Nat × Nat × Nat)}
    (hM : vx_Met l y ws rm Pc Qc XC mc ms free) (hblind : FrameBlind Pc) (hrc : rm.cells = mc) (hrs : rm.slots = ms)
    (hframes : rm.frames + 1 ≤ R.frames) (hlocals : W9 + (maxL + 11) + rm.locals ≤ R.locals)
    (hws : ∀ w ∈ ws, ∀ a' U, s.WarmedH U.vm → w.before a' U = true) (hcode : Cond.codeWith y bytes maxL ret hh ∈ ws) (hinit : ∀ a' U, s.WarmedH U.vm → (Cond.initialized y.cls).before a' U = true) :
    vx_Back l R p e below s sargs y len W9 (PreOf R mc ms Pc) (PostOf Qc mc ms free) (vx_Post XC mc ms free) := by
  intro m meth c A g ig mk a X hg hsize hdg hW hn hp
  have h1 : (headSpec ws rm).pre.before a A.U = true := atoms_intro fun w hw => hws w hw _ _ X.warmed
  have h2 : (Cond.codeWith y bytes maxL ret hh).before a A.U = true := hws _ hcode _ _ X.warmed
  have h3 : (Cond.initialized y.cls).before a A.U = true := hinit _ _ X.warmed
  have h4 : A.cells + (headSpec ws rm).room.cells ≤ R.cells := by rw [show (headSpec ws rm).room.cells = mc from hrc]; exact hp.1
  have h5 : A.slots + (headSpec ws rm).room.slots ≤ R.slots := by rw [show (headSpec ws rm).room.slots = ms from hrs]; exact hp.2.1
  have hPc : Pc a (A.U.calling g mk a) := hblind _ _ _ _ hp.2.2
  obtain ⟨U, Ls, c0, s0⟩ := A
  dsimp only [Pt.U, Pt.locs, Pt.cells, Pt.slots] at h1 h2 h3 h4 h5 X hn hPc ⊢
  obtain ⟨m9, methY, cY, hn9, hmY, hcY, -, hlY, -⟩ := Cond.codeWith_spec h2
  cases Option.some.inj (hn9.symm.trans hn)
  obtain ⟨kY, hkY, -⟩ := className_of_methodNamed hn
  have hinitY : kY.init = .initialized := Cond.initialized_spec (findClass_of_methodNamed hn) hkY h3
  have h : At U g.method c below := by rw [hg]; exact X.here
  have hlocals9 : W9 + (maxL + 11) + (headSpec ws rm).room.locals ≤ R.locals := hlocals
  have happ : (headSpec ws rm).appliesLoose y e.platform (U.calling g mk a) = true :=
    Spec.appliesLoose_calling (g := g) h hdg hn hkY hinitY
      (X.room_calling (g := g) (R' := (headSpec ws rm).room) hsize hmY hcY hframes (by rw [hlY]; omega) h4 h5) h1
  obtain ⟨mid, hmid⟩ := h.above
  have hfr : (U.setTop g).frames = (.java g :: mid) ++ below := by rw [State.frames_setTop' g h.top, hmid]; rfl
  obtain ⟨o, s₂, hsteps, -, hend, hq⟩ := Steps.callFree hM p X.admits X.cas X.clock (acts := []) hfr happ hPc trivial
  have hq' : vx_Q Qc XC mc ms free a (U.calling g mk a) o s₂ := hq
  rw [State.frames_setTop' g h.top] at hend
  obtain ⟨g₀, hg0⟩ := Option.isSome_iff_exists.mp h.top
  obtain ⟨r, hr⟩ := State.topJava?_eq_some.mp hg0
  have hr' : (({ U with heap := s₂.heap, slotsUsed := s₂.slotsUsed } : State).setVm s₂.vm).frames = .java g₀ :: r := hr
  rcases hq' with ⟨hqc, L, hfe, hL⟩ | ⟨q, rfl, E, ce, L, hx, hce, hcv, hcl, hW₂, hsm, hL⟩
  · obtain ⟨⟨v, rfl⟩, hW₂, e2, q2, q3, q4, q5, q6⟩ := id hfe
    have e3 : s₂ = ({ (U.calling g mk a).setFrames s₂.frames with heap := s₂.heap, slotsUsed := s₂.slotsUsed } : State).setVm s₂.vm := by
      have : s₂ = ({ s₂ with vm := (U.calling g mk a).vm } : State).setVm s₂.vm := rfl
      rw [e2] at this
      exact this
    obtain ⟨c₂, i₂, len₂, hc₂, hd₂, hf₂⟩ := hend
    have hW' : U.WarmedH s₂.vm := hW₂
    have hcc : c₂ = c := by
      have h1 : s₂.code? g.method = U.code? g.method := by
        rw [State.code?_eq, State.code?_eq, hW'.alike.method?]
      exact Option.some.inj (hc₂.symm.trans (h1.trans h.code))
    subst hcc
    have hlen : len₂ = len := by rw [hdg] at hd₂; cases hd₂; rfl
    subst hlen
    have hs₂ : s₂ = (({ U with heap := s₂.heap, slotsUsed := s₂.slotsUsed } : State).setVm s₂.vm).setTop { g with pc := g.pc + len₂, stack := v.toList ++ g.stack } := by
      refine e3.trans ?_
      rw [hf₂, State.calling_eq h.top, State.setFrames_setFrames, State.setTop_of_frames _ hr', hr]
      rfl
    have hsame : U.sameButNew ({ U with heap := s₂.heap, slotsUsed := s₂.slotsUsed } : State) L mc ms := by
      refine ⟨?_, q2, q3, q4, q5, q6⟩
      obtain ⟨t, ht, -⟩ := State.frames_cons hr
      show ({ U with heap := s₂.heap, slotsUsed := s₂.slotsUsed } : State) = { U.setFrames U.frames with heap := s₂.heap, slotsUsed := s₂.slotsUsed }
      rw [State.setFrames_self ht]
    subst hg
    refine Or.inl ⟨v, ⟨(({ U with heap := s₂.heap, slotsUsed := s₂.slotsUsed } : State).setVm s₂.vm), Ls ++ L, c0 + mc, s0 + ms⟩,
      ⟨X.admits, X.cas, X.clock, X.frames, X.room, X.hears, X.method, X.code, (X.here.setHeapUsed s₂.heap s₂.slotsUsed).setVm hW'.alike, X.tail, State.WarmedH.trans X.warmed hW', X.limits, X.bytes, X.same.trans (hsame.setVm s.vm)⟩,
      ⟨g, mk, s₂, L, rfl, rfl, hqc, rfl, hL, rfl, rfl⟩, ?_⟩
    show Steps p.tables e below _ ((({ U with heap := s₂.heap, slotsUsed := s₂.slotsUsed } : State).setVm s₂.vm).setTop { g with pc := g.pc + len₂, stack := v.toList ++ g.stack })
    rw [← hs₂]
    exact hsteps
  · obtain ⟨e2, q2, q3, q4, q5, q6⟩ := id hsm
    have e3 : s₂ = ({ (U.calling g mk a).setFrames s₂.frames with heap := s₂.heap, slotsUsed := s₂.slotsUsed } : State).setVm s₂.vm := by
      have : s₂ = ({ s₂ with vm := (U.calling g mk a).vm } : State).setVm s₂.vm := rfl
      rw [e2] at this
      exact this
    have hf₂ : s₂.frames = .throwing q :: .java g :: U.frames.tail := hend
    have hW' : U.WarmedH s₂.vm := hW₂
    have hs₂ : s₂ = ((({ U with heap := s₂.heap, slotsUsed := s₂.slotsUsed } : State).setVm s₂.vm).setTop g).pushFrame (.throwing q) := by
      refine e3.trans ?_
      rw [hf₂, State.calling_eq h.top, State.setFrames_setFrames, State.pushFrame, State.frames_setTop _ hr', State.setTop_of_frames _ hr', State.setFrames_setFrames, hr]
      rfl
    have hsame : U.sameButNew ({ U with heap := s₂.heap, slotsUsed := s₂.slotsUsed } : State) L mc ms := by
      refine ⟨?_, q2, q3, q4, q5, q6⟩
      obtain ⟨t, ht, -⟩ := State.frames_cons hr
      show ({ U with heap := s₂.heap, slotsUsed := s₂.slotsUsed } : State) = { U.setFrames U.frames with heap := s₂.heap, slotsUsed := s₂.slotsUsed }
      rw [State.setFrames_self ht]
    subst hg
    refine Or.inr ⟨q, ⟨(({ U with heap := s₂.heap, slotsUsed := s₂.slotsUsed } : State).setVm s₂.vm), Ls ++ L, c0 + mc, s0 + ms⟩,
      ⟨X.admits, X.cas, X.clock, X.frames, X.room, X.hears, X.method, X.code, (X.here.setHeapUsed s₂.heap s₂.slotsUsed).setVm hW'.alike, X.tail, State.WarmedH.trans X.warmed hW', X.limits, X.bytes, X.same.trans (hsame.setVm s.vm)⟩,
      ⟨g, mk, s₂, L, E, ce, rfl, rfl, hx, hce, hcv, hcl, rfl, hL, rfl, rfl⟩, ?_⟩
    show Steps p.tables e below _ (((({ U with heap := s₂.heap, slotsUsed := s₂.slotsUsed } : State).setVm s₂.vm).setTop g).pushFrame (.throwing q))
    rw [← hs₂]
    exact hsteps
end
variable {p : Program} {l : Launch} {e : Env} {R : Room} {s : State} {m : MethodId} {args : Array Value} {below : List Frame} {meth : Method} {c : Code} {T : State} {H : Heap} {locs : List Loc} {cells slots : Nat}
theorem vx_callVX (X : Stand p l e R s m args below meth c T locs cells slots) (hexec : p.tables.exec = Jvm.exec) {own C : String} {index : Nat} {y : MethodName} {bytes : ByteArray} {maxL : Nat} {ret : Option FieldType} {hh : List (Nat × Nat × Nat × Nat)}
    (hown : s.vm.findClass own = some m.cls) (hlink : (Cond.methodLink own index y).before args s = true) (hinst : (Cond.instanceMethod y).before args s = true) (hsel : (Cond.selects C y y).before args s = true)
    (hcode : (Cond.codeWith y bytes maxL ret hh).before args s = true) (hy : y.cls ≠ "java/lang/invoke/MethodHandle" ∧ y.cls ≠ "java/lang/invoke/VarHandle")
    {W9 : Nat} {Pre : Pt → Array Value → Prop} {Post : Pt → Array Value → Option Value → Pt → Prop} {PostX : Pt → Array Value → Addr → Pt → Prop} (hK : vx_Back l R p e below s args y 3 W9 Pre Post PostX)
    {b : Addr} {cellB : Cell} (hcell : T.heap[b]? = some cellB) (hobj : cellB.vm.isStatics = false) (hcls : s.vm.findClass C = some cellB.cls)
    {g : JFrame} (hg : g.method = m) (hsize : g.locals.size = c.maxLocals) {argsL rest : List Value} (hlen : ∀ sig, parseMethodDescriptor y.desc = some sig → argsL.length = sig.parameters.length)
    (hstack : g.stack = argsL.reverse ++ .ref b :: rest) (hW : 2 * g.monitorRoom + (rest.map fun v => v.category).sum ≤ W9) (hdg : decode c.code g.pc = .ok (.invokevirtual index, 3))
    (hpre : ∀ vm₁, s.WarmedH vm₁ → Pre ⟨T.setVm vm₁, locs, cells, slots⟩ (Value.ref b :: argsL).toArray) :
    (∃ (v : Option Value) (vm₁ : Vm) (B : Pt), s.WarmedH vm₁ ∧ Stand p l e R s m args below meth c B.U B.locs B.cells B.slots ∧ Post ⟨T.setVm vm₁, locs, cells, slots⟩ (Value.ref b :: argsL).toArray v B ∧
      ∀ target, Steps p.tables e below (B.U.setTop { g with pc := g.pc + 3, stack := v.toList ++ rest }) target → Steps p.tables e below (T.setTop g) target) ∨
    (∃ (q : Addr) (vm₁ : Vm) (B : Pt), s.WarmedH vm₁ ∧ Stand p l e R s m args below meth c B.U B.locs B.cells B.slots ∧ PostX ⟨T.setVm vm₁, locs, cells, slots⟩ (Value.ref b :: argsL).toArray q B ∧
      Steps p.tables e below (T.setTop g) ((B.U.setTop { g with stack := rest }).pushFrame (.throwing q))) := by
  obtain ⟨mk, methM, hnamed, hmethM, hstM, habM⟩ := Cond.instanceMethod_spec hinst
  obtain ⟨m8, methM', cM, hn8, hmethM', -, -, -, -, -, -, hsigM⟩ := Cond.codeWith_spec hcode
  cases Option.some.inj (hn8.symm.trans hnamed)
  cases hmethM.symm.trans hmethM'
  obtain ⟨c2, r2, m2, q1, q2, q3, q4, kP, hkP, hkPi⟩ := Cond.selects_spec hsel
  cases hcls.symm.trans q1
  cases (State.methodFound?_of_named hnamed hy).symm.trans q2
  cases hnamed.symm.trans q3
  have hselP : selectMethod e.platform s.vm cellB.cls mk = .method mk := by rw [Launch.admits_selectMethod X.admits]; exact q4
  obtain ⟨vm₁, X₁, hstep₁⟩ := X.invokevirtual hexec hown hlink hnamed hmethM hstM hkP hkPi hy (a := b) (cell := cellB) hcell
    (fun z h => by rw [h] at hobj; cases hobj) hselP hmethM habM hkP hkPi (g := g) hg (argsL := argsL) (rest := rest) (hlen _ hsigM) hstack hdg
  rcases hK m meth c ⟨T.setVm vm₁, locs, cells, slots⟩ { g with stack := rest } (.invokevirtual index) mk (Value.ref b :: argsL).toArray X₁ hg hsize hdg hW (X₁.named hnamed) (hpre vm₁ X₁.warmed) with ⟨v, B, X', hpost, hsteps⟩ | ⟨q, B, X', hpost, hsteps⟩
  · exact Or.inl ⟨v, vm₁, B, X₁.warmed, X', hpost, fun target h => hstep₁ _ fun acts => by rw [doInvoke_state]; exact hsteps.trans h⟩
  · exact Or.inr ⟨q, vm₁, B, X₁.warmed, X', hpost, hstep₁ _ fun acts => by rw [doInvoke_state]; exact hsteps⟩
theorem vx_callSX (X : Stand p l e R s m args below meth c T locs cells slots) (hexec : p.tables.exec = Jvm.exec) {own : String} {index : Nat} {y : MethodName} {bytes : ByteArray} {maxL : Nat} {ret : Option FieldType} {hh : List (Nat × Nat × Nat × Nat)}
    (hown : s.vm.findClass own = some m.cls) (hlink : (Cond.methodLink own index y).before args s = true) (hstat : (Cond.static y).before args s = true) (hinit : (Cond.initialized y.cls).before args s = true)
    (hcode : (Cond.codeWith y bytes maxL ret hh).before args s = true) (hy : y.cls ≠ "java/lang/invoke/MethodHandle" ∧ y.cls ≠ "java/lang/invoke/VarHandle")
    {W9 : Nat} {Pre : Pt → Array Value → Prop} {Post : Pt → Array Value → Option Value → Pt → Prop} {PostX : Pt → Array Value → Addr → Pt → Prop} (hK : vx_Back l R p e below s args y 3 W9 Pre Post PostX)
    {g : JFrame} (hg : g.method = m) (hsize : g.locals.size = c.maxLocals) {argsL rest : List Value} (hlen : ∀ sig, parseMethodDescriptor y.desc = some sig → argsL.length = sig.parameters.length)
    (hstack : g.stack = argsL.reverse ++ rest) (hW : 2 * g.monitorRoom + (rest.map fun v => v.category).sum ≤ W9) (hdg : decode c.code g.pc = .ok (.invokestatic index, 3))
    (hpre : ∀ vm₁, s.WarmedH vm₁ → Pre ⟨T.setVm vm₁, locs, cells, slots⟩ argsL.toArray) :
    (∃ (v : Option Value) (vm₁ : Vm) (B : Pt), s.WarmedH vm₁ ∧ Stand p l e R s m args below meth c B.U B.locs B.cells B.slots ∧ Post ⟨T.setVm vm₁, locs, cells, slots⟩ argsL.toArray v B ∧
      ∀ target, Steps p.tables e below (B.U.setTop { g with pc := g.pc + 3, stack := v.toList ++ rest }) target → Steps p.tables e below (T.setTop g) target) ∨
    (∃ (q : Addr) (vm₁ : Vm) (B : Pt), s.WarmedH vm₁ ∧ Stand p l e R s m args below meth c B.U B.locs B.cells B.slots ∧ PostX ⟨T.setVm vm₁, locs, cells, slots⟩ argsL.toArray q B ∧
      Steps p.tables e below (T.setTop g) ((B.U.setTop { g with stack := rest }).pushFrame (.throwing q))) := by
  obtain ⟨mk, methM, cM, hnamed, hmethM, -, -, -, -, -, -, hsigM⟩ := Cond.codeWith_spec hcode
  have hstatic : methM.isStatic = true := Cond.static_spec hnamed hmethM hstat
  obtain ⟨kP, hkP, -⟩ := className_of_methodNamed hnamed
  have hinitP : kP.init = .initialized := Cond.initialized_spec (findClass_of_methodNamed hnamed) hkP hinit
  obtain ⟨vm₁, X₁, hstep₁⟩ := X.invokestatic hexec hown hlink hnamed hmethM hstatic hkP hinitP hy (g := g) hg (argsL := argsL) (rest := rest) (hlen _ hsigM) hstack hdg
  rcases hK m meth c ⟨T.setVm vm₁, locs, cells, slots⟩ { g with stack := rest } (.invokestatic index) mk argsL.toArray X₁ hg hsize hdg hW (X₁.named hnamed) (hpre vm₁ X₁.warmed) with ⟨v, B, X', hpost, hsteps⟩ | ⟨q, B, X', hpost, hsteps⟩
  · exact Or.inl ⟨v, vm₁, B, X₁.warmed, X', hpost, fun target h => hstep₁ _ fun acts => by rw [doInvoke_state]; exact hsteps.trans h⟩
  · exact Or.inr ⟨q, vm₁, B, X₁.warmed, X', hpost, hstep₁ _ fun acts => by rw [doInvoke_state]; exact hsteps⟩
theorem vx_callVW (X : Stand p l e R s m args below meth c T locs cells slots) (hexec : p.tables.exec = Jvm.exec) {own C : String} {index : Nat} {y : MethodName} {bytes : ByteArray} {maxL : Nat} {ret : Option FieldType} {hh : List (Nat × Nat × Nat × Nat)}
    (hown : s.vm.findClass own = some m.cls) (hlink : (Cond.methodLink own index y).before args s = true) (hinst : (Cond.instanceMethod y).before args s = true) (hsel : (Cond.selects C y y).before args s = true)
    (hcode : (Cond.codeWith y bytes maxL ret hh).before args s = true) (hy : y.cls ≠ "java/lang/invoke/MethodHandle" ∧ y.cls ≠ "java/lang/invoke/VarHandle")
    {W9 : Nat} {Pre : Pt → Array Value → Prop} {Post : Pt → Array Value → Option Value → Pt → Prop} (hK : Back l R p e below s args y 3 W9 Pre Post)
    {b : Addr} {cellB : Cell} (hcell : T.heap[b]? = some cellB) (hobj : cellB.vm.isStatics = false) (hcls : s.vm.findClass C = some cellB.cls)
    {g : JFrame} (hg : g.method = m) (hsize : g.locals.size = c.maxLocals) {argsL rest : List Value} (hlen : ∀ sig, parseMethodDescriptor y.desc = some sig → argsL.length = sig.parameters.length)
    (hstack : g.stack = argsL.reverse ++ .ref b :: rest) (hW : 2 * g.monitorRoom + (rest.map fun v => v.category).sum ≤ W9) (hdg : decode c.code g.pc = .ok (.invokevirtual index, 3))
    (hpre : ∀ vm₁, s.WarmedH vm₁ → Pre ⟨T.setVm vm₁, locs, cells, slots⟩ (Value.ref b :: argsL).toArray) :
    ∃ (v : Option Value) (vm₁ : Vm) (B : Pt), s.WarmedH vm₁ ∧ Stand p l e R s m args below meth c B.U B.locs B.cells B.slots ∧ Post ⟨T.setVm vm₁, locs, cells, slots⟩ (Value.ref b :: argsL).toArray v B ∧
      ∀ target, Steps p.tables e below (B.U.setTop { g with pc := g.pc + 3, stack := v.toList ++ rest }) target → Steps p.tables e below (T.setTop g) target := by
  obtain ⟨mk, methM, hnamed, hmethM, hstM, habM⟩ := Cond.instanceMethod_spec hinst
  obtain ⟨m8, methM', cM, hn8, hmethM', -, -, -, -, -, -, hsigM⟩ := Cond.codeWith_spec hcode
  cases Option.some.inj (hn8.symm.trans hnamed)
  cases hmethM.symm.trans hmethM'
  obtain ⟨c2, r2, m2, q1, q2, q3, q4, kP, hkP, hkPi⟩ := Cond.selects_spec hsel
  cases hcls.symm.trans q1
  cases (State.methodFound?_of_named hnamed hy).symm.trans q2
  cases hnamed.symm.trans q3
  have hselP : selectMethod e.platform s.vm cellB.cls mk = .method mk := by rw [Launch.admits_selectMethod X.admits]; exact q4
  obtain ⟨vm₁, X₁, hstep₁⟩ := X.invokevirtual hexec hown hlink hnamed hmethM hstM hkP hkPi hy (a := b) (cell := cellB) hcell
    (fun z h => by rw [h] at hobj; cases hobj) hselP hmethM habM hkP hkPi (g := g) hg (argsL := argsL) (rest := rest) (hlen _ hsigM) hstack hdg
  obtain ⟨v, B, X', hpost, hsteps⟩ := hK m meth c ⟨T.setVm vm₁, locs, cells, slots⟩ { g with stack := rest } (.invokevirtual index) mk (Value.ref b :: argsL).toArray X₁ hg hsize hdg hW (X₁.named hnamed) (hpre vm₁ X₁.warmed)
  exact ⟨v, vm₁, B, X₁.warmed, X', hpost, fun target h => hstep₁ _ fun acts => by rw [doInvoke_state]; exact hsteps.trans h⟩
abbrev vx_CVW (R : Room) (s : State) (args : Array Value) (own C : String) (index : Nat) (y : MethodName) (bytes : ByteArray) (maxL : Nat) (ret : Option FieldType) (hh : List (Nat × Nat × Nat × Nat)) (ws : List Cond) (rm : Room) (mc ms n : Nat) : Prop :=
  (rm.cells = mc ∧ rm.slots = ms ∧ rm.frames + 1 ≤ R.frames ∧ 8 + (maxL + 11) + rm.locals ≤ R.locals ∧ (∀ w ∈ ws, ∀ (a' : Array Value) (U : State), s.WarmedH U.vm → w.before a' U = true) ∧ Cond.codeWith y bytes maxL ret hh ∈ ws) ∧
  (Cond.codeWith y bytes maxL ret hh).before args s = true ∧ (Cond.initialized y.cls).before args s = true ∧ (y.cls ≠ "java/lang/invoke/MethodHandle" ∧ y.cls ≠ "java/lang/invoke/VarHandle") ∧
  (∀ sig, parseMethodDescriptor y.desc = some sig → n = sig.parameters.length) ∧ (Cond.methodLink own index y).before args s = true ∧ (Cond.instanceMethod y).before args s = true ∧ (Cond.selects C y y).before args s = true
theorem vx_cwVW {own C : String} {index maxL mc ms : Nat} {y : MethodName} {bytes : ByteArray} {ret : Option FieldType} {hh : List (Nat × Nat × Nat × Nat)} {Ts ws ws' : List Cond} {rm : Room} (n : Nat) (ht : ∀ w ∈ Ts, w.before args s = true) (hT : GoodIn Ts (wsV own index C y ws)) (hw : ws = Cond.codeWith y bytes maxL ret hh :: ws') (hrc : rm.cells = mc) (hrs : rm.slots = ms)
    (hd : y.cls = C ∧ y.cls ≠ "java/lang/invoke/MethodHandle" ∧ y.cls ≠ "java/lang/invoke/VarHandle" ∧ (parseMethodDescriptor y.desc).map (fun d => d.parameters.length) = some n) (hR : rm.frames + 1 ≤ R.frames ∧ 8 + (maxL + 11) + rm.locals ≤ R.locals) :
    vx_CVW R s args own C index y bytes maxL ret hh ws rm mc ms n := by
  obtain ⟨hC, hd⟩ := hd
  subst hC
  have ok : ∀ w ∈ wsV own index y.cls y ws, w.before args s = true := fun w h => ht w (hT w h).1
  have hG : GoodIn Ts ws := fun w h => hT w (by unfold wsV; exact List.mem_append_right _ h)
  have hc : Cond.codeWith y bytes maxL ret hh ∈ ws := by rw [hw]; exact List.mem_cons_self
  refine ⟨⟨hrc, hrs, hR.1, hR.2, pay_in ht hG, hc⟩, ht _ (hG _ hc).1, ok _ (by simp [wsV]), ⟨hd.1, hd.2.1⟩, fun sig h => ?_, ok _ (by simp [wsV]), ok _ (by simp [wsV]), ok _ (by simp [wsV])⟩
  have h2 := hd.2.2
  rw [h] at h2
  exact (Option.some.inj h2).symm
theorem vx_runVW {y : MethodName} {bytes cc : ByteArray} {maxL nL mc ms n index : Nat} {ret : Option FieldType} {hh : List (Nat × Nat × Nat × Nat)} {ws : List Cond} {rm : Room} {Pc : Array Value → State → Prop} {Qc : Array Value → State → Outcome → State → Prop} {free : Addr → Prop} {Ts : List Cond} {own C : String} {b : Addr} {As rest : List Value} {g : JFrame}
    (S : CallFix p m c cc nL s args Ts own) (hM : Met l y ws rm Pc Qc mc ms free) (cw : vx_CVW R s args own C index y bytes maxL ret hh ws rm mc ms n) (hp : PreV s H C b Pc As)
    (hg : g.method = m) (hn : As.length = n) (hsize : g.locals.size = nL) (hstack : g.stack = As.reverse ++ .ref b :: rest) (hW : 2 * g.monitorRoom + (rest.map fun v => v.category).sum ≤ 8) (hdg : decode cc g.pc = .ok (.invokevirtual index, 3)) (hf : cells + mc ≤ R.cells ∧ slots + ms ≤ R.slots) :
    va_Run p l e R s m args below meth c H locs cells slots mc ms g rest (Qc (Value.ref b :: As).toArray) free := by
  obtain ⟨⟨hrc, hrs, hfr, hlo, hws, hcw⟩, hcode, hini, hy, hlen, hl, hin, hse⟩ := cw
  have hK : Back l R p e below s args y 3 8 (PreOf R mc ms Pc) (PostOf Qc mc ms free) := va_backW (hh := hh) (bytes := bytes) (maxL := maxL) (ret := ret) hM hp.1 hrc hrs hfr hlo hws hcw (fun a' U hW => word_at hW (Or.inl (by first | rfl | simp [Cond.onTables, Cond.keeps, Cond.steady])) hini)
  obtain ⟨hx, hb, hml, ho, -⟩ := S
  obtain ⟨-, ⟨cellB, hcB, hoB, hclB⟩, hPc⟩ := hp
  intro T hT X
  obtain ⟨v, vm₁, ⟨U', l2, c2, s2⟩, hW₁, X', ⟨g', mk, t, L, e1, e2, hq, h1, hL, h2, h3⟩, st⟩ := vx_callVW X hx (C := C) (hh := hh) (bytes := bytes) (maxL := maxL) (ret := ret) ho hl hin hse hcode hy hK (by rw [hT]; exact hcB) hoB hclB hg (hsize.trans hml.symm) (argsL := As) (rest := rest) (fun sig h => hn.trans (hlen sig h)) hstack hW (by rw [hb]; exact hdg)
    (fun vm₁ hW₁ => ⟨hf.1, hf.2, hPc (T.setVm vm₁) hT hW₁⟩)
  dsimp only [Pt.U, Pt.locs, Pt.cells, Pt.slots] at X' e1 e2 h1 h2 h3 st
  subst h1; subst h2; subst h3
  exact ⟨v, (T.setVm vm₁).calling g' mk (Value.ref b :: As).toArray, t, U', L, hT, X', hL, e1, e2, hq, st⟩
section
variable {y : MethodName} {bytes cc : ByteArray} {maxL nL mc ms n index : Nat} {ret : Option FieldType} {ws : List Cond} {rm : Room} {Pc : Array Value → State → Prop} {Qc : Array Value → State → Outcome → State → Prop} {XC : String → State → State → Prop} {free : Addr → Prop} {Ts : List Cond} {own C : String} {b : Addr} {As rest : List Value} {g : JFrame}
theorem vx_runVX {hh : List (Nat × Nat × Nat × Nat)} (S : CallFix p m c cc nL s args Ts own) (hM : vx_Met l y ws rm Pc Qc XC mc ms free) (cw : vx_CVW R s args own C index y bytes maxL ret hh ws rm mc ms n) (hp : PreV s H C b Pc As)
    (hg : g.method = m) (hn : As.length = n) (hsize : g.locals.size = nL) (hstack : g.stack = As.reverse ++ .ref b :: rest) (hW : 2 * g.monitorRoom + (rest.map fun v => v.category).sum ≤ 8) (hdg : decode cc g.pc = .ok (.invokevirtual index, 3)) (hf : cells + mc ≤ R.cells ∧ slots + ms ≤ R.slots) :
    vx_Run p l e R s m args below meth c H locs cells slots mc ms g rest (Qc (Value.ref b :: As).toArray) XC free := by
  obtain ⟨⟨hrc, hrs, hfr, hlo, hws, hcw⟩, hcode, hini, hy, hlen, hl, hin, hse⟩ := cw
  have hK : vx_Back l R p e below s args y 3 8 (PreOf R mc ms Pc) (PostOf Qc mc ms free) (vx_Post XC mc ms free) := vx_backW (hh := hh) (bytes := bytes) (maxL := maxL) (ret := ret) hM hp.1 hrc hrs hfr hlo hws hcw (fun a' U hW => word_at hW (Or.inl (by first | rfl | simp [Cond.onTables, Cond.keeps, Cond.steady])) hini)
  obtain ⟨hx, hb, hml, ho, -⟩ := S
  obtain ⟨-, ⟨cellB, hcB, hoB, hclB⟩, hPc⟩ := hp
  intro T hT X
  rcases vx_callVX X hx (C := C) (hh := hh) (bytes := bytes) (maxL := maxL) (ret := ret) ho hl hin hse hcode hy hK (by rw [hT]; exact hcB) hoB hclB hg (hsize.trans hml.symm) (argsL := As) (rest := rest) (fun sig h => hn.trans (hlen sig h)) hstack hW (by rw [hb]; exact hdg)
    (fun vm₁ hW₁ => ⟨hf.1, hf.2, hPc (T.setVm vm₁) hT hW₁⟩) with ⟨v, vm₁, ⟨U', l2, c2, s2⟩, hW₁, X', ⟨g', mk, t, L, e1, e2, hq, h1, hL, h2, h3⟩, st⟩ | ⟨q, vm₁, ⟨U', l2, c2, s2⟩, hW₁, X', ⟨g', mk, t, L, E, ce, e1, e2, hq, hce, hcv, hcl, h1, hL, h2, h3⟩, st⟩
  · dsimp only [Pt.U, Pt.locs, Pt.cells, Pt.slots] at X' e1 e2 h1 h2 h3 st
    subst h1; subst h2; subst h3
    exact Or.inl ⟨v, (T.setVm vm₁).calling g' mk (Value.ref b :: As).toArray, t, U', L, hT, X', hL, e1, e2, hq, st⟩
  · dsimp only [Pt.U, Pt.locs, Pt.cells, Pt.slots] at X' e1 e2 h1 h2 h3 st hcl
    subst h1; subst h2; subst h3
    exact Or.inr ⟨q, (T.setVm vm₁).calling g' mk (Value.ref b :: As).toArray, t, U', L, E, ce, hT, X', hL, e1, e2, hq, hce, hcv, vx_cls hW₁ hcl, st⟩
theorem vx_runSX {hh : List (Nat × Nat × Nat × Nat)} (S : CallFix p m c cc nL s args Ts own) (hM : vx_Met l y ws rm Pc Qc XC mc ms free) (cw : vx_CSW R s args own index y bytes maxL ret hh ws rm mc ms n) (hp : PreS s H Pc As)
    (hg : g.method = m) (hn : As.length = n) (hsize : g.locals.size = nL) (hstack : g.stack = As.reverse ++ rest) (hW : 2 * g.monitorRoom + (rest.map fun v => v.category).sum ≤ 8) (hdg : decode cc g.pc = .ok (.invokestatic index, 3)) (hf : cells + mc ≤ R.cells ∧ slots + ms ≤ R.slots) :
    vx_Run p l e R s m args below meth c H locs cells slots mc ms g rest (Qc As.toArray) XC free := by
  obtain ⟨⟨hrc, hrs, hfr, hlo, hws, hcw⟩, hcode, hini, hy, hlen, hl, hstt⟩ := cw
  have hK : vx_Back l R p e below s args y 3 8 (PreOf R mc ms Pc) (PostOf Qc mc ms free) (vx_Post XC mc ms free) := vx_backW (hh := hh) (bytes := bytes) (maxL := maxL) (ret := ret) hM hp.1 hrc hrs hfr hlo hws hcw (fun a' U hW => word_at hW (Or.inl (by first | rfl | simp [Cond.onTables, Cond.keeps, Cond.steady])) hini)
  obtain ⟨hx, hb, hml, ho, -⟩ := S
  intro T hT X
  rcases vx_callSX X hx (hh := hh) (bytes := bytes) (maxL := maxL) (ret := ret) ho hl hstt hini hcode hy hK hg (hsize.trans hml.symm) (argsL := As) (rest := rest) (fun sig h => hn.trans (hlen sig h)) hstack hW (by rw [hb]; exact hdg)
    (fun vm₁ hW₁ => ⟨hf.1, hf.2, hp.2 (T.setVm vm₁) hT hW₁⟩) with ⟨v, vm₁, ⟨U', l2, c2, s2⟩, hW₁, X', ⟨g', mk, t, L, e1, e2, hq, h1, hL, h2, h3⟩, st⟩ | ⟨q, vm₁, ⟨U', l2, c2, s2⟩, hW₁, X', ⟨g', mk, t, L, E, ce, e1, e2, hq, hce, hcv, hcl, h1, hL, h2, h3⟩, st⟩
  · dsimp only [Pt.U, Pt.locs, Pt.cells, Pt.slots] at X' e1 e2 h1 h2 h3 st
    subst h1; subst h2; subst h3
    exact Or.inl ⟨v, (T.setVm vm₁).calling g' mk As.toArray, t, U', L, hT, X', hL, e1, e2, hq, st⟩
  · dsimp only [Pt.U, Pt.locs, Pt.cells, Pt.slots] at X' e1 e2 h1 h2 h3 st hcl
    subst h1; subst h2; subst h3
    exact Or.inr ⟨q, (T.setVm vm₁).calling g' mk As.toArray, t, U', L, E, ce, hT, X', hL, e1, e2, hq, hce, hcv, vx_cls hW₁ hcl, st⟩
end
end VXH
theorem vx_ofWH {l : Launch} {y : MethodName} {ws ws' : List Cond} {rm : Room} {Pc : Array Value → State → Prop} {Qc : Array Value → State → Outcome → State → Prop} {XC : String → State → State → Prop} {mc ms : Nat} {free : Addr → Prop} {cc : ByteArray} {maxL : Nat} {ret : Option FieldType} {hh : List (Nat × Nat × Nat × Nat)}
    (hy : plainName y.cls = true) (hw : ws = Cond.codeWith y cc maxL ret hh :: ws')
    (body : ∀ p e s m args below meth c s₁, BodyLoose p l y (headSpec ws rm) cc maxL ret e s m args below meth c s₁ → c.maxLocals = maxL → Pc args s →
      W p l e (headSpec ws rm).room s m args below meth c s.heap [] 0 0 (vx_MQ below Qc XC args s mc ms free) (entryFrame m args maxL)) : vx_Met l y ws rm Pc Qc XC mc ms free := by
  refine MetFree.of_bodyS (code := cc) (maxLocals := maxL) (ret := ret) hy ?_ ?_
  · intro args s m h hn
    obtain ⟨m9, meth, c, hn9, h1, h2, h3, h4, -, h5, h6, -⟩ := Cond.codeWith_spec (atoms_spec (ws := ws) h _ (by rw [hw]; exact List.mem_cons_self))
    cases hn.symm.trans hn9
    exact ⟨meth, c, h1, h2, h3, h4, h5, h6⟩
  · intro p e s m args below meth c s₁ B hml hP _
    have hh0 : s₁.heap = s.heap := by rw [B.state]; rfl
    obtain ⟨t, a1, o, b1, b2, b3⟩ := body p e s m args below meth c s₁ B hml hP s₁ hh0 (Stand.of_body B)
    exact ⟨t, o, a1, b1, b2, b3⟩
/-! ===== END ===== -/
end
section
def RX0 : String := "TenThousandthDesk"
def TX0 : u_T := fun k => match k with
  | _ => ("TenThousandthDesk", "registers", "[J", true)
def tyX0 : Nat → FieldType := fun k => match k with
  | _ => .array .long
abbrev wsX00 : List Cond := u_ws RX0 TX0 1
theorem nmX0 : ∀ a, a < 1 → ∀ b, b < 1 → a ≠ b → (TX0 a).2.1 ≠ (TX0 b).2.1 := by decide +kernel
theorem tyX0_ok : ∀ k, k < 1 → parseFieldDescriptor (TX0 k).2.2.1 = some (tyX0 k) := by decide +kernel
abbrev cX0_init : ByteArray := prog_1_method_1_code
def yX0_init : MethodName := ⟨RX0, "<init>", "()V"⟩
abbrev cX0_set : ByteArray := prog_1_method_2_code
def yX0_set : MethodName := ⟨RX0, "set", "(IJ)J"⟩
abbrev cX0_get : ByteArray := prog_1_method_3_code
def yX0_get : MethodName := ⟨RX0, "get", "(I)J"⟩
abbrev cX0_reckon : ByteArray := prog_1_method_4_code
def yX0_reckon : MethodName := ⟨RX0, "reckon", "(IIII)J"⟩
abbrev cX0_turn : ByteArray := prog_1_method_5_code
def yX0_turn : MethodName := ⟨RX0, "turn", "(III)J"⟩
abbrev cX0_round : ByteArray := prog_1_method_6_code
def yX0_round : MethodName := ⟨RX0, "round", "(III)J"⟩
abbrev cX0_print : ByteArray := prog_1_method_7_code
def yX0_print : MethodName := ⟨RX0, "print", "(II)I"⟩
abbrev cX0_average : ByteArray := prog_1_method_8_code
def yX0_average : MethodName := ⟨RX0, "average", "(I)J"⟩
abbrev cX0_isRegister : ByteArray := prog_1_method_9_code
def yX0_isRegister : MethodName := ⟨RX0, "isRegister", "(I)Z"⟩
abbrev cX0_isNumber : ByteArray := prog_1_method_10_code
def yX0_isNumber : MethodName := ⟨RX0, "isNumber", "(J)Z"⟩
abbrev cX0_limited : ByteArray := prog_1_method_11_code
def yX0_limited : MethodName := ⟨RX0, "limited", "(J)J"⟩
abbrev cX0_reckoned : ByteArray := prog_1_method_12_code
def yX0_reckoned : MethodName := ⟨RX0, "reckoned", "(IJJ)J"⟩
abbrev cX0_turned : ByteArray := prog_1_method_13_code
def yX0_turned : MethodName := ⟨RX0, "turned", "(IJ)J"⟩
abbrev cX0_product : ByteArray := prog_1_method_14_code
def yX0_product : MethodName := ⟨RX0, "product", "(JJ)J"⟩
abbrev cX0_productOfSizes : ByteArray := prog_1_method_15_code
def yX0_productOfSizes : MethodName := ⟨RX0, "productOfSizes", "(JJ)J"⟩
abbrev cX0_roundedQuotient : ByteArray := prog_1_method_16_code
def yX0_roundedQuotient : MethodName := ⟨RX0, "roundedQuotient", "(JJ)J"⟩
abbrev cX0_printedByte : ByteArray := prog_1_method_17_code
def yX0_printedByte : MethodName := ⟨RX0, "printedByte", "(JI)I"⟩
abbrev cX0_byteBehindWhole : ByteArray := prog_1_method_18_code
def yX0_byteBehindWhole : MethodName := ⟨RX0, "byteBehindWhole", "(JI)I"⟩
abbrev cX0_wholeDigits : ByteArray := prog_1_method_19_code
def yX0_wholeDigits : MethodName := ⟨RX0, "wholeDigits", "(J)I"⟩
abbrev cX0_digit : ByteArray := prog_1_method_20_code
def yX0_digit : MethodName := ⟨RX0, "digit", "(JI)I"⟩
def RX1 : String := "TenThousandthDeskModel"
def TX1 : u_T := fun k => match k with
  | 0 => ("TenThousandthDeskModel", "failed", "I", false)
  | 1 => ("TenThousandthDeskModel", "registers", "[J", true)
  | _ => ("TenThousandthDeskModel", "printed", "[I", true)
def tyX1 : Nat → FieldType := fun k => match k with
  | 0 => .int
  | 1 => .array .long
  | _ => .array .int
abbrev wsX10 : List Cond := u_ws RX1 TX1 3
theorem nmX1 : ∀ a, a < 3 → ∀ b, b < 3 → a ≠ b → (TX1 a).2.1 ≠ (TX1 b).2.1 := by decide +kernel
theorem tyX1_ok : ∀ k, k < 3 → parseFieldDescriptor (TX1 k).2.2.1 = some (tyX1 k) := by decide +kernel
abbrev cX1_init : ByteArray := prog_3_method_1_code
def yX1_init : MethodName := ⟨RX1, "<init>", "()V"⟩
def RJ9 : String := "java/lang/Math"
def TJ9 : u_T := fun k => match k with
  | _ => ("", "", "", false)
def tyJ9 : Nat → FieldType := fun k => match k with
  | _ => .int
abbrev wsJ90 : List Cond := u_ws RJ9 TJ9 0
theorem nmJ9 : ∀ a, a < 0 → ∀ b, b < 0 → a ≠ b → (TJ9 a).2.1 ≠ (TJ9 b).2.1 := by decide +kernel
theorem tyJ9_ok : ∀ k, k < 0 → parseFieldDescriptor (TJ9 k).2.2.1 = some (tyJ9 k) := by decide +kernel
abbrev cJ9_floorDiv_f86c9 : ByteArray := prog_7_method_49_code
def yJ9_floorDiv_f86c9 : MethodName := ⟨RJ9, "floorDiv", "(JJ)J"⟩
abbrev cJ9_floorMod_f86c9 : ByteArray := prog_7_method_52_code
def yJ9_floorMod_f86c9 : MethodName := ⟨RJ9, "floorMod", "(JJ)J"⟩
abbrev cJ9_abs_067f4 : ByteArray := prog_7_method_61_code
def yJ9_abs_067f4 : MethodName := ⟨RJ9, "abs", "(J)J"⟩
def RL : String := "TenThousandthDeskLaw"
abbrev cL_set : ByteArray := method_3_code
def yL_set : MethodName := ⟨RL, "set", "(LTenThousandthDesk;IJ[J)I"⟩
abbrev cL_get : ByteArray := method_4_code
def yL_get : MethodName := ⟨RL, "get", "(LTenThousandthDesk;I[J)I"⟩
abbrev cL_reckon : ByteArray := method_5_code
def yL_reckon : MethodName := ⟨RL, "reckon", "(LTenThousandthDesk;IIII[J)I"⟩
abbrev cL_turn : ByteArray := method_6_code
def yL_turn : MethodName := ⟨RL, "turn", "(LTenThousandthDesk;III[J)I"⟩
abbrev cL_round : ByteArray := method_7_code
def yL_round : MethodName := ⟨RL, "round", "(LTenThousandthDesk;III[J)I"⟩
abbrev cL_print : ByteArray := method_8_code
def yL_print : MethodName := ⟨RL, "print", "(LTenThousandthDesk;II[J)I"⟩
abbrev cL_average : ByteArray := method_9_code
def yL_average : MethodName := ⟨RL, "average", "(LTenThousandthDesk;I[J)I"⟩
abbrev cL_law : ByteArray := code
def yL_law : MethodName := ⟨RL, "law", "([I)Z"⟩
theorem dX0_init_0 : decode cX0_init 0 = .ok (.aload_n 0, 1) := by decide +kernel
theorem dX0_init_1 : decode cX0_init 1 = .ok (.invokespecial 1, 3) := by decide +kernel
theorem dX0_init_4 : decode cX0_init 4 = .ok (.aload_n 0, 1) := by decide +kernel
theorem dX0_init_5 : decode cX0_init 5 = .ok (.bipush 8, 2) := by decide +kernel
theorem dX0_init_7 : decode cX0_init 7 = .ok (.newarray .long, 2) := by decide +kernel
theorem dX0_init_9 : decode cX0_init 9 = .ok (.putfield 9, 3) := by decide +kernel
theorem dX0_init_12 : decode cX0_init 12 = .ok (.return_, 1) := by decide +kernel
theorem dX0_set_0 : decode cX0_set 0 = .ok (.iload_n 1, 1) := by decide +kernel
theorem dX0_set_1 : decode cX0_set 1 = .ok (.invokestatic 13, 3) := by decide +kernel
theorem dX0_set_4 : decode cX0_set 4 = .ok (.ifCond .eq 10, 3) := by decide +kernel
theorem dX0_set_7 : decode cX0_set 7 = .ok (.lload_n 2, 1) := by decide +kernel
theorem dX0_set_8 : decode cX0_set 8 = .ok (.invokestatic 17, 3) := by decide +kernel
theorem dX0_set_11 : decode cX0_set 11 = .ok (.ifCond .ne 11, 3) := by decide +kernel
theorem dX0_set_14 : decode cX0_set 14 = .ok (.new 21, 3) := by decide +kernel
theorem dX0_set_17 : decode cX0_set 17 = .ok (.dup, 1) := by decide +kernel
theorem dX0_set_18 : decode cX0_set 18 = .ok (.invokespecial 23, 3) := by decide +kernel
theorem dX0_set_21 : decode cX0_set 21 = .ok (.athrow, 1) := by decide +kernel
theorem dX0_set_22 : decode cX0_set 22 = .ok (.aload_n 0, 1) := by decide +kernel
theorem dX0_set_23 : decode cX0_set 23 = .ok (.getfield 9, 3) := by decide +kernel
theorem dX0_set_26 : decode cX0_set 26 = .ok (.iload_n 1, 1) := by decide +kernel
theorem dX0_set_27 : decode cX0_set 27 = .ok (.laload, 1) := by decide +kernel
theorem dX0_set_28 : decode cX0_set 28 = .ok (.lstore 4, 2) := by decide +kernel
theorem dX0_set_30 : decode cX0_set 30 = .ok (.aload_n 0, 1) := by decide +kernel
theorem dX0_set_31 : decode cX0_set 31 = .ok (.getfield 9, 3) := by decide +kernel
theorem dX0_set_34 : decode cX0_set 34 = .ok (.iload_n 1, 1) := by decide +kernel
theorem dX0_set_35 : decode cX0_set 35 = .ok (.lload_n 2, 1) := by decide +kernel
theorem dX0_set_36 : decode cX0_set 36 = .ok (.lastore, 1) := by decide +kernel
theorem dX0_set_37 : decode cX0_set 37 = .ok (.lload 4, 2) := by decide +kernel
theorem dX0_set_39 : decode cX0_set 39 = .ok (.lreturn, 1) := by decide +kernel
theorem dX0_get_0 : decode cX0_get 0 = .ok (.iload_n 1, 1) := by decide +kernel
theorem dX0_get_1 : decode cX0_get 1 = .ok (.invokestatic 13, 3) := by decide +kernel
theorem dX0_get_4 : decode cX0_get 4 = .ok (.ifCond .ne 11, 3) := by decide +kernel
theorem dX0_get_7 : decode cX0_get 7 = .ok (.new 21, 3) := by decide +kernel
theorem dX0_get_10 : decode cX0_get 10 = .ok (.dup, 1) := by decide +kernel
theorem dX0_get_11 : decode cX0_get 11 = .ok (.invokespecial 23, 3) := by decide +kernel
theorem dX0_get_14 : decode cX0_get 14 = .ok (.athrow, 1) := by decide +kernel
theorem dX0_get_15 : decode cX0_get 15 = .ok (.aload_n 0, 1) := by decide +kernel
theorem dX0_get_16 : decode cX0_get 16 = .ok (.getfield 9, 3) := by decide +kernel
theorem dX0_get_19 : decode cX0_get 19 = .ok (.iload_n 1, 1) := by decide +kernel
theorem dX0_get_20 : decode cX0_get 20 = .ok (.laload, 1) := by decide +kernel
theorem dX0_get_21 : decode cX0_get 21 = .ok (.lreturn, 1) := by decide +kernel
theorem dX0_reckon_0 : decode cX0_reckon 0 = .ok (.iload_n 1, 1) := by decide +kernel
theorem dX0_reckon_1 : decode cX0_reckon 1 = .ok (.invokestatic 13, 3) := by decide +kernel
theorem dX0_reckon_4 : decode cX0_reckon 4 = .ok (.ifCond .eq 27, 3) := by decide +kernel
theorem dX0_reckon_7 : decode cX0_reckon 7 = .ok (.iload_n 3, 1) := by decide +kernel
theorem dX0_reckon_8 : decode cX0_reckon 8 = .ok (.invokestatic 13, 3) := by decide +kernel
theorem dX0_reckon_11 : decode cX0_reckon 11 = .ok (.ifCond .eq 20, 3) := by decide +kernel
theorem dX0_reckon_14 : decode cX0_reckon 14 = .ok (.iload 4, 2) := by decide +kernel
theorem dX0_reckon_16 : decode cX0_reckon 16 = .ok (.invokestatic 13, 3) := by decide +kernel
theorem dX0_reckon_19 : decode cX0_reckon 19 = .ok (.ifCond .eq 12, 3) := by decide +kernel
theorem dX0_reckon_22 : decode cX0_reckon 22 = .ok (.iload_n 2, 1) := by decide +kernel
theorem dX0_reckon_23 : decode cX0_reckon 23 = .ok (.ifCond .lt 8, 3) := by decide +kernel
theorem dX0_reckon_26 : decode cX0_reckon 26 = .ok (.iload_n 2, 1) := by decide +kernel
theorem dX0_reckon_27 : decode cX0_reckon 27 = .ok (.iconst 4, 1) := by decide +kernel
theorem dX0_reckon_28 : decode cX0_reckon 28 = .ok (.if_icmp .le 11, 3) := by decide +kernel
theorem dX0_reckon_31 : decode cX0_reckon 31 = .ok (.new 21, 3) := by decide +kernel
theorem dX0_reckon_34 : decode cX0_reckon 34 = .ok (.dup, 1) := by decide +kernel
theorem dX0_reckon_35 : decode cX0_reckon 35 = .ok (.invokespecial 23, 3) := by decide +kernel
theorem dX0_reckon_38 : decode cX0_reckon 38 = .ok (.athrow, 1) := by decide +kernel
theorem dX0_reckon_39 : decode cX0_reckon 39 = .ok (.iload_n 2, 1) := by decide +kernel
theorem dX0_reckon_40 : decode cX0_reckon 40 = .ok (.aload_n 0, 1) := by decide +kernel
theorem dX0_reckon_41 : decode cX0_reckon 41 = .ok (.getfield 9, 3) := by decide +kernel
theorem dX0_reckon_44 : decode cX0_reckon 44 = .ok (.iload_n 3, 1) := by decide +kernel
theorem dX0_reckon_45 : decode cX0_reckon 45 = .ok (.laload, 1) := by decide +kernel
theorem dX0_reckon_46 : decode cX0_reckon 46 = .ok (.aload_n 0, 1) := by decide +kernel
theorem dX0_reckon_47 : decode cX0_reckon 47 = .ok (.getfield 9, 3) := by decide +kernel
theorem dX0_reckon_50 : decode cX0_reckon 50 = .ok (.iload 4, 2) := by decide +kernel
theorem dX0_reckon_52 : decode cX0_reckon 52 = .ok (.laload, 1) := by decide +kernel
theorem dX0_reckon_53 : decode cX0_reckon 53 = .ok (.invokestatic 24, 3) := by decide +kernel
theorem dX0_reckon_56 : decode cX0_reckon 56 = .ok (.invokestatic 28, 3) := by decide +kernel
theorem dX0_reckon_59 : decode cX0_reckon 59 = .ok (.lstore 5, 2) := by decide +kernel
theorem dX0_reckon_61 : decode cX0_reckon 61 = .ok (.aload_n 0, 1) := by decide +kernel
theorem dX0_reckon_62 : decode cX0_reckon 62 = .ok (.getfield 9, 3) := by decide +kernel
theorem dX0_reckon_65 : decode cX0_reckon 65 = .ok (.iload_n 1, 1) := by decide +kernel
theorem dX0_reckon_66 : decode cX0_reckon 66 = .ok (.lload 5, 2) := by decide +kernel
theorem dX0_reckon_68 : decode cX0_reckon 68 = .ok (.lastore, 1) := by decide +kernel
theorem dX0_reckon_69 : decode cX0_reckon 69 = .ok (.lload 5, 2) := by decide +kernel
theorem dX0_reckon_71 : decode cX0_reckon 71 = .ok (.lreturn, 1) := by decide +kernel
theorem dX0_turn_0 : decode cX0_turn 0 = .ok (.iload_n 1, 1) := by decide +kernel
theorem dX0_turn_1 : decode cX0_turn 1 = .ok (.invokestatic 13, 3) := by decide +kernel
theorem dX0_turn_4 : decode cX0_turn 4 = .ok (.ifCond .eq 19, 3) := by decide +kernel
theorem dX0_turn_7 : decode cX0_turn 7 = .ok (.iload_n 3, 1) := by decide +kernel
theorem dX0_turn_8 : decode cX0_turn 8 = .ok (.invokestatic 13, 3) := by decide +kernel
theorem dX0_turn_11 : decode cX0_turn 11 = .ok (.ifCond .eq 12, 3) := by decide +kernel
theorem dX0_turn_14 : decode cX0_turn 14 = .ok (.iload_n 2, 1) := by decide +kernel
theorem dX0_turn_15 : decode cX0_turn 15 = .ok (.ifCond .lt 8, 3) := by decide +kernel
theorem dX0_turn_18 : decode cX0_turn 18 = .ok (.iload_n 2, 1) := by decide +kernel
theorem dX0_turn_19 : decode cX0_turn 19 = .ok (.iconst 3, 1) := by decide +kernel
theorem dX0_turn_20 : decode cX0_turn 20 = .ok (.if_icmp .le 11, 3) := by decide +kernel
theorem dX0_turn_23 : decode cX0_turn 23 = .ok (.new 21, 3) := by decide +kernel
theorem dX0_turn_26 : decode cX0_turn 26 = .ok (.dup, 1) := by decide +kernel
theorem dX0_turn_27 : decode cX0_turn 27 = .ok (.invokespecial 23, 3) := by decide +kernel
theorem dX0_turn_30 : decode cX0_turn 30 = .ok (.athrow, 1) := by decide +kernel
theorem dX0_turn_31 : decode cX0_turn 31 = .ok (.iload_n 2, 1) := by decide +kernel
theorem dX0_turn_32 : decode cX0_turn 32 = .ok (.aload_n 0, 1) := by decide +kernel
theorem dX0_turn_33 : decode cX0_turn 33 = .ok (.getfield 9, 3) := by decide +kernel
theorem dX0_turn_36 : decode cX0_turn 36 = .ok (.iload_n 3, 1) := by decide +kernel
theorem dX0_turn_37 : decode cX0_turn 37 = .ok (.laload, 1) := by decide +kernel
theorem dX0_turn_38 : decode cX0_turn 38 = .ok (.invokestatic 32, 3) := by decide +kernel
theorem dX0_turn_41 : decode cX0_turn 41 = .ok (.invokestatic 28, 3) := by decide +kernel
theorem dX0_turn_44 : decode cX0_turn 44 = .ok (.lstore 4, 2) := by decide +kernel
theorem dX0_turn_46 : decode cX0_turn 46 = .ok (.aload_n 0, 1) := by decide +kernel
theorem dX0_turn_47 : decode cX0_turn 47 = .ok (.getfield 9, 3) := by decide +kernel
theorem dX0_turn_50 : decode cX0_turn 50 = .ok (.iload_n 1, 1) := by decide +kernel
theorem dX0_turn_51 : decode cX0_turn 51 = .ok (.lload 4, 2) := by decide +kernel
theorem dX0_turn_53 : decode cX0_turn 53 = .ok (.lastore, 1) := by decide +kernel
theorem dX0_turn_54 : decode cX0_turn 54 = .ok (.lload 4, 2) := by decide +kernel
theorem dX0_turn_56 : decode cX0_turn 56 = .ok (.lreturn, 1) := by decide +kernel
theorem dX0_round_0 : decode cX0_round 0 = .ok (.iload_n 1, 1) := by decide +kernel
theorem dX0_round_1 : decode cX0_round 1 = .ok (.invokestatic 13, 3) := by decide +kernel
theorem dX0_round_4 : decode cX0_round 4 = .ok (.ifCond .eq 21, 3) := by decide +kernel
theorem dX0_round_7 : decode cX0_round 7 = .ok (.iload_n 2, 1) := by decide +kernel
theorem dX0_round_8 : decode cX0_round 8 = .ok (.invokestatic 13, 3) := by decide +kernel
theorem dX0_round_11 : decode cX0_round 11 = .ok (.ifCond .eq 14, 3) := by decide +kernel
theorem dX0_round_14 : decode cX0_round 14 = .ok (.iload_n 3, 1) := by decide +kernel
theorem dX0_round_15 : decode cX0_round 15 = .ok (.bipush (-9), 2) := by decide +kernel
theorem dX0_round_17 : decode cX0_round 17 = .ok (.if_icmp .lt 8, 3) := by decide +kernel
theorem dX0_round_20 : decode cX0_round 20 = .ok (.iload_n 3, 1) := by decide +kernel
theorem dX0_round_21 : decode cX0_round 21 = .ok (.iconst 4, 1) := by decide +kernel
theorem dX0_round_22 : decode cX0_round 22 = .ok (.if_icmp .le 11, 3) := by decide +kernel
theorem dX0_round_25 : decode cX0_round 25 = .ok (.new 21, 3) := by decide +kernel
theorem dX0_round_28 : decode cX0_round 28 = .ok (.dup, 1) := by decide +kernel
theorem dX0_round_29 : decode cX0_round 29 = .ok (.invokespecial 23, 3) := by decide +kernel
theorem dX0_round_32 : decode cX0_round 32 = .ok (.athrow, 1) := by decide +kernel
theorem dX0_round_33 : decode cX0_round 33 = .ok (.getstatic 36, 3) := by decide +kernel
theorem dX0_round_36 : decode cX0_round 36 = .ok (.iconst 4, 1) := by decide +kernel
theorem dX0_round_37 : decode cX0_round 37 = .ok (.iload_n 3, 1) := by decide +kernel
theorem dX0_round_38 : decode cX0_round 38 = .ok (.isub, 1) := by decide +kernel
theorem dX0_round_39 : decode cX0_round 39 = .ok (.laload, 1) := by decide +kernel
theorem dX0_round_40 : decode cX0_round 40 = .ok (.lstore 4, 2) := by decide +kernel
theorem dX0_round_42 : decode cX0_round 42 = .ok (.aload_n 0, 1) := by decide +kernel
theorem dX0_round_43 : decode cX0_round 43 = .ok (.getfield 9, 3) := by decide +kernel
theorem dX0_round_46 : decode cX0_round 46 = .ok (.iload_n 2, 1) := by decide +kernel
theorem dX0_round_47 : decode cX0_round 47 = .ok (.laload, 1) := by decide +kernel
theorem dX0_round_48 : decode cX0_round 48 = .ok (.lload 4, 2) := by decide +kernel
theorem dX0_round_50 : decode cX0_round 50 = .ok (.invokestatic 39, 3) := by decide +kernel
theorem dX0_round_53 : decode cX0_round 53 = .ok (.lload 4, 2) := by decide +kernel
theorem dX0_round_55 : decode cX0_round 55 = .ok (.lmul, 1) := by decide +kernel
theorem dX0_round_56 : decode cX0_round 56 = .ok (.invokestatic 28, 3) := by decide +kernel
theorem dX0_round_59 : decode cX0_round 59 = .ok (.lstore 6, 2) := by decide +kernel
theorem dX0_round_61 : decode cX0_round 61 = .ok (.aload_n 0, 1) := by decide +kernel
theorem dX0_round_62 : decode cX0_round 62 = .ok (.getfield 9, 3) := by decide +kernel
theorem dX0_round_65 : decode cX0_round 65 = .ok (.iload_n 1, 1) := by decide +kernel
theorem dX0_round_66 : decode cX0_round 66 = .ok (.lload 6, 2) := by decide +kernel
theorem dX0_round_68 : decode cX0_round 68 = .ok (.lastore, 1) := by decide +kernel
theorem dX0_round_69 : decode cX0_round 69 = .ok (.lload 6, 2) := by decide +kernel
theorem dX0_round_71 : decode cX0_round 71 = .ok (.lreturn, 1) := by decide +kernel
theorem dX0_print_0 : decode cX0_print 0 = .ok (.iload_n 1, 1) := by decide +kernel
theorem dX0_print_1 : decode cX0_print 1 = .ok (.invokestatic 13, 3) := by decide +kernel
theorem dX0_print_4 : decode cX0_print 4 = .ok (.ifCond .eq 7, 3) := by decide +kernel
theorem dX0_print_7 : decode cX0_print 7 = .ok (.iload_n 2, 1) := by decide +kernel
theorem dX0_print_8 : decode cX0_print 8 = .ok (.ifCond .ge 11, 3) := by decide +kernel
theorem dX0_print_11 : decode cX0_print 11 = .ok (.new 21, 3) := by decide +kernel
theorem dX0_print_14 : decode cX0_print 14 = .ok (.dup, 1) := by decide +kernel
theorem dX0_print_15 : decode cX0_print 15 = .ok (.invokespecial 23, 3) := by decide +kernel
theorem dX0_print_18 : decode cX0_print 18 = .ok (.athrow, 1) := by decide +kernel
theorem dX0_print_19 : decode cX0_print 19 = .ok (.aload_n 0, 1) := by decide +kernel
theorem dX0_print_20 : decode cX0_print 20 = .ok (.getfield 9, 3) := by decide +kernel
theorem dX0_print_23 : decode cX0_print 23 = .ok (.iload_n 1, 1) := by decide +kernel
theorem dX0_print_24 : decode cX0_print 24 = .ok (.laload, 1) := by decide +kernel
theorem dX0_print_25 : decode cX0_print 25 = .ok (.lstore_n 3, 1) := by decide +kernel
theorem dX0_print_26 : decode cX0_print 26 = .ok (.lload_n 3, 1) := by decide +kernel
theorem dX0_print_27 : decode cX0_print 27 = .ok (.lconst 0, 1) := by decide +kernel
theorem dX0_print_28 : decode cX0_print 28 = .ok (.lcmp, 1) := by decide +kernel
theorem dX0_print_29 : decode cX0_print 29 = .ok (.ifCond .lt 9, 3) := by decide +kernel
theorem dX0_print_32 : decode cX0_print 32 = .ok (.lload_n 3, 1) := by decide +kernel
theorem dX0_print_33 : decode cX0_print 33 = .ok (.iload_n 2, 1) := by decide +kernel
theorem dX0_print_34 : decode cX0_print 34 = .ok (.invokestatic 43, 3) := by decide +kernel
theorem dX0_print_37 : decode cX0_print 37 = .ok (.ireturn, 1) := by decide +kernel
theorem dX0_print_38 : decode cX0_print 38 = .ok (.iload_n 2, 1) := by decide +kernel
theorem dX0_print_39 : decode cX0_print 39 = .ok (.ifCond .ne 8, 3) := by decide +kernel
theorem dX0_print_42 : decode cX0_print 42 = .ok (.bipush 45, 2) := by decide +kernel
theorem dX0_print_44 : decode cX0_print 44 = .ok (.goto 11, 3) := by decide +kernel
theorem dX0_print_47 : decode cX0_print 47 = .ok (.lload_n 3, 1) := by decide +kernel
theorem dX0_print_48 : decode cX0_print 48 = .ok (.lneg, 1) := by decide +kernel
theorem dX0_print_49 : decode cX0_print 49 = .ok (.iload_n 2, 1) := by decide +kernel
theorem dX0_print_50 : decode cX0_print 50 = .ok (.iconst 1, 1) := by decide +kernel
theorem dX0_print_51 : decode cX0_print 51 = .ok (.isub, 1) := by decide +kernel
theorem dX0_print_52 : decode cX0_print 52 = .ok (.invokestatic 43, 3) := by decide +kernel
theorem dX0_print_55 : decode cX0_print 55 = .ok (.ireturn, 1) := by decide +kernel
theorem dX0_average_0 : decode cX0_average 0 = .ok (.iload_n 1, 1) := by decide +kernel
theorem dX0_average_1 : decode cX0_average 1 = .ok (.iconst 1, 1) := by decide +kernel
theorem dX0_average_2 : decode cX0_average 2 = .ok (.if_icmp .lt 9, 3) := by decide +kernel
theorem dX0_average_5 : decode cX0_average 5 = .ok (.iload_n 1, 1) := by decide +kernel
theorem dX0_average_6 : decode cX0_average 6 = .ok (.bipush 8, 2) := by decide +kernel
theorem dX0_average_8 : decode cX0_average 8 = .ok (.if_icmp .le 11, 3) := by decide +kernel
theorem dX0_average_11 : decode cX0_average 11 = .ok (.new 21, 3) := by decide +kernel
theorem dX0_average_14 : decode cX0_average 14 = .ok (.dup, 1) := by decide +kernel
theorem dX0_average_15 : decode cX0_average 15 = .ok (.invokespecial 23, 3) := by decide +kernel
theorem dX0_average_18 : decode cX0_average 18 = .ok (.athrow, 1) := by decide +kernel
theorem dX0_average_19 : decode cX0_average 19 = .ok (.lconst 0, 1) := by decide +kernel
theorem dX0_average_20 : decode cX0_average 20 = .ok (.lstore_n 2, 1) := by decide +kernel
theorem dX0_average_21 : decode cX0_average 21 = .ok (.iconst 0, 1) := by decide +kernel
theorem dX0_average_22 : decode cX0_average 22 = .ok (.istore 4, 2) := by decide +kernel
theorem dX0_average_24 : decode cX0_average 24 = .ok (.iload 4, 2) := by decide +kernel
theorem dX0_average_26 : decode cX0_average 26 = .ok (.iload_n 1, 1) := by decide +kernel
theorem dX0_average_27 : decode cX0_average 27 = .ok (.if_icmp .ge 22, 3) := by decide +kernel
theorem dX0_average_30 : decode cX0_average 30 = .ok (.lload_n 2, 1) := by decide +kernel
theorem dX0_average_31 : decode cX0_average 31 = .ok (.aload_n 0, 1) := by decide +kernel
theorem dX0_average_32 : decode cX0_average 32 = .ok (.getfield 9, 3) := by decide +kernel
theorem dX0_average_35 : decode cX0_average 35 = .ok (.iload 4, 2) := by decide +kernel
theorem dX0_average_37 : decode cX0_average 37 = .ok (.laload, 1) := by decide +kernel
theorem dX0_average_38 : decode cX0_average 38 = .ok (.ladd, 1) := by decide +kernel
theorem dX0_average_39 : decode cX0_average 39 = .ok (.invokestatic 28, 3) := by decide +kernel
theorem dX0_average_42 : decode cX0_average 42 = .ok (.lstore_n 2, 1) := by decide +kernel
theorem dX0_average_43 : decode cX0_average 43 = .ok (.iinc 4 1, 3) := by decide +kernel
theorem dX0_average_46 : decode cX0_average 46 = .ok (.goto (-22), 3) := by decide +kernel
theorem dX0_average_49 : decode cX0_average 49 = .ok (.lload_n 2, 1) := by decide +kernel
theorem dX0_average_50 : decode cX0_average 50 = .ok (.iload_n 1, 1) := by decide +kernel
theorem dX0_average_51 : decode cX0_average 51 = .ok (.i2l, 1) := by decide +kernel
theorem dX0_average_52 : decode cX0_average 52 = .ok (.invokestatic 39, 3) := by decide +kernel
theorem dX0_average_55 : decode cX0_average 55 = .ok (.lreturn, 1) := by decide +kernel
theorem dX0_isRegister_0 : decode cX0_isRegister 0 = .ok (.iload_n 0, 1) := by decide +kernel
theorem dX0_isRegister_1 : decode cX0_isRegister 1 = .ok (.ifCond .lt 13, 3) := by decide +kernel
theorem dX0_isRegister_4 : decode cX0_isRegister 4 = .ok (.iload_n 0, 1) := by decide +kernel
theorem dX0_isRegister_5 : decode cX0_isRegister 5 = .ok (.bipush 8, 2) := by decide +kernel
theorem dX0_isRegister_7 : decode cX0_isRegister 7 = .ok (.if_icmp .ge 7, 3) := by decide +kernel
theorem dX0_isRegister_10 : decode cX0_isRegister 10 = .ok (.iconst 1, 1) := by decide +kernel
theorem dX0_isRegister_11 : decode cX0_isRegister 11 = .ok (.goto 4, 3) := by decide +kernel
theorem dX0_isRegister_14 : decode cX0_isRegister 14 = .ok (.iconst 0, 1) := by decide +kernel
theorem dX0_isRegister_15 : decode cX0_isRegister 15 = .ok (.ireturn, 1) := by decide +kernel
theorem dX0_isNumber_0 : decode cX0_isNumber 0 = .ok (.lload_n 0, 1) := by decide +kernel
theorem dX0_isNumber_1 : decode cX0_isNumber 1 = .ok (.ldc2_w 47, 3) := by decide +kernel
theorem dX0_isNumber_4 : decode cX0_isNumber 4 = .ok (.lcmp, 1) := by decide +kernel
theorem dX0_isNumber_5 : decode cX0_isNumber 5 = .ok (.ifCond .lt 15, 3) := by decide +kernel
theorem dX0_isNumber_8 : decode cX0_isNumber 8 = .ok (.lload_n 0, 1) := by decide +kernel
theorem dX0_isNumber_9 : decode cX0_isNumber 9 = .ok (.ldc2_w 49, 3) := by decide +kernel
theorem dX0_isNumber_12 : decode cX0_isNumber 12 = .ok (.lcmp, 1) := by decide +kernel
theorem dX0_isNumber_13 : decode cX0_isNumber 13 = .ok (.ifCond .gt 7, 3) := by decide +kernel
theorem dX0_isNumber_16 : decode cX0_isNumber 16 = .ok (.iconst 1, 1) := by decide +kernel
theorem dX0_isNumber_17 : decode cX0_isNumber 17 = .ok (.goto 4, 3) := by decide +kernel
theorem dX0_isNumber_20 : decode cX0_isNumber 20 = .ok (.iconst 0, 1) := by decide +kernel
theorem dX0_isNumber_21 : decode cX0_isNumber 21 = .ok (.ireturn, 1) := by decide +kernel
theorem dX0_limited_0 : decode cX0_limited 0 = .ok (.lload_n 0, 1) := by decide +kernel
theorem dX0_limited_1 : decode cX0_limited 1 = .ok (.invokestatic 17, 3) := by decide +kernel
theorem dX0_limited_4 : decode cX0_limited 4 = .ok (.ifCond .ne 11, 3) := by decide +kernel
theorem dX0_limited_7 : decode cX0_limited 7 = .ok (.new 51, 3) := by decide +kernel
theorem dX0_limited_10 : decode cX0_limited 10 = .ok (.dup, 1) := by decide +kernel
theorem dX0_limited_11 : decode cX0_limited 11 = .ok (.invokespecial 53, 3) := by decide +kernel
theorem dX0_limited_14 : decode cX0_limited 14 = .ok (.athrow, 1) := by decide +kernel
theorem dX0_limited_15 : decode cX0_limited 15 = .ok (.lload_n 0, 1) := by decide +kernel
theorem dX0_limited_16 : decode cX0_limited 16 = .ok (.lreturn, 1) := by decide +kernel
theorem dX0_reckoned_0 : decode cX0_reckoned 0 = .ok (.lload_n 3, 1) := by decide +kernel
theorem dX0_reckoned_1 : decode cX0_reckoned 1 = .ok (.lconst 0, 1) := by decide +kernel
theorem dX0_reckoned_2 : decode cX0_reckoned 2 = .ok (.lcmp, 1) := by decide +kernel
theorem dX0_reckoned_3 : decode cX0_reckoned 3 = .ok (.ifCond .ne 21, 3) := by decide +kernel
theorem dX0_reckoned_6 : decode cX0_reckoned 6 = .ok (.iload_n 0, 1) := by decide +kernel
theorem dX0_reckoned_7 : decode cX0_reckoned 7 = .ok (.iconst 3, 1) := by decide +kernel
theorem dX0_reckoned_8 : decode cX0_reckoned 8 = .ok (.if_icmp .eq 8, 3) := by decide +kernel
theorem dX0_reckoned_11 : decode cX0_reckoned 11 = .ok (.iload_n 0, 1) := by decide +kernel
theorem dX0_reckoned_12 : decode cX0_reckoned 12 = .ok (.iconst 4, 1) := by decide +kernel
theorem dX0_reckoned_13 : decode cX0_reckoned 13 = .ok (.if_icmp .ne 11, 3) := by decide +kernel
theorem dX0_reckoned_16 : decode cX0_reckoned 16 = .ok (.new 54, 3) := by decide +kernel
theorem dX0_reckoned_19 : decode cX0_reckoned 19 = .ok (.dup, 1) := by decide +kernel
theorem dX0_reckoned_20 : decode cX0_reckoned 20 = .ok (.invokespecial 56, 3) := by decide +kernel
theorem dX0_reckoned_23 : decode cX0_reckoned 23 = .ok (.athrow, 1) := by decide +kernel
theorem dX0_reckoned_24 : decode cX0_reckoned 24 = .ok (.iload_n 0, 1) := by decide +kernel
theorem dX0_reckoned_25 : decode cX0_reckoned 25 = .ok (.tableswitch 55 0 3 #[31, 35, 39, 45], 31) := by decide +kernel
theorem dX0_reckoned_56 : decode cX0_reckoned 56 = .ok (.lload_n 1, 1) := by decide +kernel
theorem dX0_reckoned_57 : decode cX0_reckoned 57 = .ok (.lload_n 3, 1) := by decide +kernel
theorem dX0_reckoned_58 : decode cX0_reckoned 58 = .ok (.ladd, 1) := by decide +kernel
theorem dX0_reckoned_59 : decode cX0_reckoned 59 = .ok (.lreturn, 1) := by decide +kernel
theorem dX0_reckoned_60 : decode cX0_reckoned 60 = .ok (.lload_n 1, 1) := by decide +kernel
theorem dX0_reckoned_61 : decode cX0_reckoned 61 = .ok (.lload_n 3, 1) := by decide +kernel
theorem dX0_reckoned_62 : decode cX0_reckoned 62 = .ok (.lsub, 1) := by decide +kernel
theorem dX0_reckoned_63 : decode cX0_reckoned 63 = .ok (.lreturn, 1) := by decide +kernel
theorem dX0_reckoned_64 : decode cX0_reckoned 64 = .ok (.lload_n 1, 1) := by decide +kernel
theorem dX0_reckoned_65 : decode cX0_reckoned 65 = .ok (.lload_n 3, 1) := by decide +kernel
theorem dX0_reckoned_66 : decode cX0_reckoned 66 = .ok (.invokestatic 57, 3) := by decide +kernel
theorem dX0_reckoned_69 : decode cX0_reckoned 69 = .ok (.lreturn, 1) := by decide +kernel
theorem dX0_reckoned_70 : decode cX0_reckoned 70 = .ok (.lload_n 1, 1) := by decide +kernel
theorem dX0_reckoned_71 : decode cX0_reckoned 71 = .ok (.ldc2_w 60, 3) := by decide +kernel
theorem dX0_reckoned_74 : decode cX0_reckoned 74 = .ok (.lmul, 1) := by decide +kernel
theorem dX0_reckoned_75 : decode cX0_reckoned 75 = .ok (.lload_n 3, 1) := by decide +kernel
theorem dX0_reckoned_76 : decode cX0_reckoned 76 = .ok (.invokestatic 39, 3) := by decide +kernel
theorem dX0_reckoned_79 : decode cX0_reckoned 79 = .ok (.lreturn, 1) := by decide +kernel
theorem dX0_reckoned_80 : decode cX0_reckoned 80 = .ok (.lload_n 1, 1) := by decide +kernel
theorem dX0_reckoned_81 : decode cX0_reckoned 81 = .ok (.lload_n 3, 1) := by decide +kernel
theorem dX0_reckoned_82 : decode cX0_reckoned 82 = .ok (.invokestatic 62, 3) := by decide +kernel
theorem dX0_reckoned_85 : decode cX0_reckoned 85 = .ok (.lreturn, 1) := by decide +kernel
theorem dX0_turned_0 : decode cX0_turned 0 = .ok (.iload_n 0, 1) := by decide +kernel
theorem dX0_turned_1 : decode cX0_turned 1 = .ok (.tableswitch 52 0 2 #[27, 35, 47], 27) := by decide +kernel
theorem dX0_turned_28 : decode cX0_turned 28 = .ok (.lload_n 1, 1) := by decide +kernel
theorem dX0_turned_29 : decode cX0_turned 29 = .ok (.ldc2_w 67, 3) := by decide +kernel
theorem dX0_turned_32 : decode cX0_turned 32 = .ok (.invokestatic 39, 3) := by decide +kernel
theorem dX0_turned_35 : decode cX0_turned 35 = .ok (.lreturn, 1) := by decide +kernel
theorem dX0_turned_36 : decode cX0_turned 36 = .ok (.lload_n 1, 1) := by decide +kernel
theorem dX0_turned_37 : decode cX0_turned 37 = .ok (.ldc2_w 60, 3) := by decide +kernel
theorem dX0_turned_40 : decode cX0_turned 40 = .ok (.invokestatic 69, 3) := by decide +kernel
theorem dX0_turned_43 : decode cX0_turned 43 = .ok (.ldc2_w 60, 3) := by decide +kernel
theorem dX0_turned_46 : decode cX0_turned 46 = .ok (.lmul, 1) := by decide +kernel
theorem dX0_turned_47 : decode cX0_turned 47 = .ok (.lreturn, 1) := by decide +kernel
theorem dX0_turned_48 : decode cX0_turned 48 = .ok (.lload_n 1, 1) := by decide +kernel
theorem dX0_turned_49 : decode cX0_turned 49 = .ok (.invokestatic 72, 3) := by decide +kernel
theorem dX0_turned_52 : decode cX0_turned 52 = .ok (.lreturn, 1) := by decide +kernel
theorem dX0_turned_53 : decode cX0_turned 53 = .ok (.lload_n 1, 1) := by decide +kernel
theorem dX0_turned_54 : decode cX0_turned 54 = .ok (.lneg, 1) := by decide +kernel
theorem dX0_turned_55 : decode cX0_turned 55 = .ok (.lreturn, 1) := by decide +kernel
theorem dX0_product_0 : decode cX0_product 0 = .ok (.lload_n 0, 1) := by decide +kernel
theorem dX0_product_1 : decode cX0_product 1 = .ok (.invokestatic 72, 3) := by decide +kernel
theorem dX0_product_4 : decode cX0_product 4 = .ok (.lload_n 2, 1) := by decide +kernel
theorem dX0_product_5 : decode cX0_product 5 = .ok (.invokestatic 72, 3) := by decide +kernel
theorem dX0_product_8 : decode cX0_product 8 = .ok (.invokestatic 75, 3) := by decide +kernel
theorem dX0_product_11 : decode cX0_product 11 = .ok (.lstore 4, 2) := by decide +kernel
theorem dX0_product_13 : decode cX0_product 13 = .ok (.lload_n 0, 1) := by decide +kernel
theorem dX0_product_14 : decode cX0_product 14 = .ok (.lconst 0, 1) := by decide +kernel
theorem dX0_product_15 : decode cX0_product 15 = .ok (.lcmp, 1) := by decide +kernel
theorem dX0_product_16 : decode cX0_product 16 = .ok (.ifCond .ge 7, 3) := by decide +kernel
theorem dX0_product_19 : decode cX0_product 19 = .ok (.iconst 1, 1) := by decide +kernel
theorem dX0_product_20 : decode cX0_product 20 = .ok (.goto 4, 3) := by decide +kernel
theorem dX0_product_23 : decode cX0_product 23 = .ok (.iconst 0, 1) := by decide +kernel
theorem dX0_product_24 : decode cX0_product 24 = .ok (.lload_n 2, 1) := by decide +kernel
theorem dX0_product_25 : decode cX0_product 25 = .ok (.lconst 0, 1) := by decide +kernel
theorem dX0_product_26 : decode cX0_product 26 = .ok (.lcmp, 1) := by decide +kernel
theorem dX0_product_27 : decode cX0_product 27 = .ok (.ifCond .ge 7, 3) := by decide +kernel
theorem dX0_product_30 : decode cX0_product 30 = .ok (.iconst 1, 1) := by decide +kernel
theorem dX0_product_31 : decode cX0_product 31 = .ok (.goto 4, 3) := by decide +kernel
theorem dX0_product_34 : decode cX0_product 34 = .ok (.iconst 0, 1) := by decide +kernel
theorem dX0_product_35 : decode cX0_product 35 = .ok (.if_icmp .ne 8, 3) := by decide +kernel
theorem dX0_product_38 : decode cX0_product 38 = .ok (.lload 4, 2) := by decide +kernel
theorem dX0_product_40 : decode cX0_product 40 = .ok (.goto 6, 3) := by decide +kernel
theorem dX0_product_43 : decode cX0_product 43 = .ok (.lload 4, 2) := by decide +kernel
theorem dX0_product_45 : decode cX0_product 45 = .ok (.lneg, 1) := by decide +kernel
theorem dX0_product_46 : decode cX0_product 46 = .ok (.lreturn, 1) := by decide +kernel
theorem dX0_productOfSizes_0 : decode cX0_productOfSizes 0 = .ok (.lload_n 0, 1) := by decide +kernel
theorem dX0_productOfSizes_1 : decode cX0_productOfSizes 1 = .ok (.ldc2_w 60, 3) := by decide +kernel
theorem dX0_productOfSizes_4 : decode cX0_productOfSizes 4 = .ok (.ldiv, 1) := by decide +kernel
theorem dX0_productOfSizes_5 : decode cX0_productOfSizes 5 = .ok (.lstore 4, 2) := by decide +kernel
theorem dX0_productOfSizes_7 : decode cX0_productOfSizes 7 = .ok (.lload 4, 2) := by decide +kernel
theorem dX0_productOfSizes_9 : decode cX0_productOfSizes 9 = .ok (.lconst 0, 1) := by decide +kernel
theorem dX0_productOfSizes_10 : decode cX0_productOfSizes 10 = .ok (.lcmp, 1) := by decide +kernel
theorem dX0_productOfSizes_11 : decode cX0_productOfSizes 11 = .ok (.ifCond .eq 22, 3) := by decide +kernel
theorem dX0_productOfSizes_14 : decode cX0_productOfSizes 14 = .ok (.lload_n 2, 1) := by decide +kernel
theorem dX0_productOfSizes_15 : decode cX0_productOfSizes 15 = .ok (.ldc2_w 49, 3) := by decide +kernel
theorem dX0_productOfSizes_18 : decode cX0_productOfSizes 18 = .ok (.lload 4, 2) := by decide +kernel
theorem dX0_productOfSizes_20 : decode cX0_productOfSizes 20 = .ok (.ldiv, 1) := by decide +kernel
theorem dX0_productOfSizes_21 : decode cX0_productOfSizes 21 = .ok (.lcmp, 1) := by decide +kernel
theorem dX0_productOfSizes_22 : decode cX0_productOfSizes 22 = .ok (.ifCond .le 11, 3) := by decide +kernel
theorem dX0_productOfSizes_25 : decode cX0_productOfSizes 25 = .ok (.new 51, 3) := by decide +kernel
theorem dX0_productOfSizes_28 : decode cX0_productOfSizes 28 = .ok (.dup, 1) := by decide +kernel
theorem dX0_productOfSizes_29 : decode cX0_productOfSizes 29 = .ok (.invokespecial 53, 3) := by decide +kernel
theorem dX0_productOfSizes_32 : decode cX0_productOfSizes 32 = .ok (.athrow, 1) := by decide +kernel
theorem dX0_productOfSizes_33 : decode cX0_productOfSizes 33 = .ok (.lload 4, 2) := by decide +kernel
theorem dX0_productOfSizes_35 : decode cX0_productOfSizes 35 = .ok (.lload_n 2, 1) := by decide +kernel
theorem dX0_productOfSizes_36 : decode cX0_productOfSizes 36 = .ok (.lmul, 1) := by decide +kernel
theorem dX0_productOfSizes_37 : decode cX0_productOfSizes 37 = .ok (.lload_n 0, 1) := by decide +kernel
theorem dX0_productOfSizes_38 : decode cX0_productOfSizes 38 = .ok (.ldc2_w 60, 3) := by decide +kernel
theorem dX0_productOfSizes_41 : decode cX0_productOfSizes 41 = .ok (.lrem, 1) := by decide +kernel
theorem dX0_productOfSizes_42 : decode cX0_productOfSizes 42 = .ok (.lload_n 2, 1) := by decide +kernel
theorem dX0_productOfSizes_43 : decode cX0_productOfSizes 43 = .ok (.lmul, 1) := by decide +kernel
theorem dX0_productOfSizes_44 : decode cX0_productOfSizes 44 = .ok (.ldc2_w 60, 3) := by decide +kernel
theorem dX0_productOfSizes_47 : decode cX0_productOfSizes 47 = .ok (.invokestatic 39, 3) := by decide +kernel
theorem dX0_productOfSizes_50 : decode cX0_productOfSizes 50 = .ok (.ladd, 1) := by decide +kernel
theorem dX0_productOfSizes_51 : decode cX0_productOfSizes 51 = .ok (.lreturn, 1) := by decide +kernel
theorem dX0_roundedQuotient_0 : decode cX0_roundedQuotient 0 = .ok (.lload_n 0, 1) := by decide +kernel
theorem dX0_roundedQuotient_1 : decode cX0_roundedQuotient 1 = .ok (.invokestatic 72, 3) := by decide +kernel
theorem dX0_roundedQuotient_4 : decode cX0_roundedQuotient 4 = .ok (.lstore 4, 2) := by decide +kernel
theorem dX0_roundedQuotient_6 : decode cX0_roundedQuotient 6 = .ok (.lload_n 2, 1) := by decide +kernel
theorem dX0_roundedQuotient_7 : decode cX0_roundedQuotient 7 = .ok (.invokestatic 72, 3) := by decide +kernel
theorem dX0_roundedQuotient_10 : decode cX0_roundedQuotient 10 = .ok (.lstore 6, 2) := by decide +kernel
theorem dX0_roundedQuotient_12 : decode cX0_roundedQuotient 12 = .ok (.lload 4, 2) := by decide +kernel
theorem dX0_roundedQuotient_14 : decode cX0_roundedQuotient 14 = .ok (.lload 6, 2) := by decide +kernel
theorem dX0_roundedQuotient_16 : decode cX0_roundedQuotient 16 = .ok (.ldiv, 1) := by decide +kernel
theorem dX0_roundedQuotient_17 : decode cX0_roundedQuotient 17 = .ok (.lstore 8, 2) := by decide +kernel
theorem dX0_roundedQuotient_19 : decode cX0_roundedQuotient 19 = .ok (.lload 4, 2) := by decide +kernel
theorem dX0_roundedQuotient_21 : decode cX0_roundedQuotient 21 = .ok (.lload 6, 2) := by decide +kernel
theorem dX0_roundedQuotient_23 : decode cX0_roundedQuotient 23 = .ok (.lrem, 1) := by decide +kernel
theorem dX0_roundedQuotient_24 : decode cX0_roundedQuotient 24 = .ok (.lstore 10, 2) := by decide +kernel
theorem dX0_roundedQuotient_26 : decode cX0_roundedQuotient 26 = .ok (.lload 10, 2) := by decide +kernel
theorem dX0_roundedQuotient_28 : decode cX0_roundedQuotient 28 = .ok (.lload 6, 2) := by decide +kernel
theorem dX0_roundedQuotient_30 : decode cX0_roundedQuotient 30 = .ok (.lload 10, 2) := by decide +kernel
theorem dX0_roundedQuotient_32 : decode cX0_roundedQuotient 32 = .ok (.lsub, 1) := by decide +kernel
theorem dX0_roundedQuotient_33 : decode cX0_roundedQuotient 33 = .ok (.lcmp, 1) := by decide +kernel
theorem dX0_roundedQuotient_34 : decode cX0_roundedQuotient 34 = .ok (.ifCond .lt 9, 3) := by decide +kernel
theorem dX0_roundedQuotient_37 : decode cX0_roundedQuotient 37 = .ok (.lload 8, 2) := by decide +kernel
theorem dX0_roundedQuotient_39 : decode cX0_roundedQuotient 39 = .ok (.lconst 1, 1) := by decide +kernel
theorem dX0_roundedQuotient_40 : decode cX0_roundedQuotient 40 = .ok (.ladd, 1) := by decide +kernel
theorem dX0_roundedQuotient_41 : decode cX0_roundedQuotient 41 = .ok (.lstore 8, 2) := by decide +kernel
theorem dX0_roundedQuotient_43 : decode cX0_roundedQuotient 43 = .ok (.lload_n 0, 1) := by decide +kernel
theorem dX0_roundedQuotient_44 : decode cX0_roundedQuotient 44 = .ok (.lconst 0, 1) := by decide +kernel
theorem dX0_roundedQuotient_45 : decode cX0_roundedQuotient 45 = .ok (.lcmp, 1) := by decide +kernel
theorem dX0_roundedQuotient_46 : decode cX0_roundedQuotient 46 = .ok (.ifCond .ge 7, 3) := by decide +kernel
theorem dX0_roundedQuotient_49 : decode cX0_roundedQuotient 49 = .ok (.iconst 1, 1) := by decide +kernel
theorem dX0_roundedQuotient_50 : decode cX0_roundedQuotient 50 = .ok (.goto 4, 3) := by decide +kernel
theorem dX0_roundedQuotient_53 : decode cX0_roundedQuotient 53 = .ok (.iconst 0, 1) := by decide +kernel
theorem dX0_roundedQuotient_54 : decode cX0_roundedQuotient 54 = .ok (.lload_n 2, 1) := by decide +kernel
theorem dX0_roundedQuotient_55 : decode cX0_roundedQuotient 55 = .ok (.lconst 0, 1) := by decide +kernel
theorem dX0_roundedQuotient_56 : decode cX0_roundedQuotient 56 = .ok (.lcmp, 1) := by decide +kernel
theorem dX0_roundedQuotient_57 : decode cX0_roundedQuotient 57 = .ok (.ifCond .ge 7, 3) := by decide +kernel
theorem dX0_roundedQuotient_60 : decode cX0_roundedQuotient 60 = .ok (.iconst 1, 1) := by decide +kernel
theorem dX0_roundedQuotient_61 : decode cX0_roundedQuotient 61 = .ok (.goto 4, 3) := by decide +kernel
theorem dX0_roundedQuotient_64 : decode cX0_roundedQuotient 64 = .ok (.iconst 0, 1) := by decide +kernel
theorem dX0_roundedQuotient_65 : decode cX0_roundedQuotient 65 = .ok (.if_icmp .ne 8, 3) := by decide +kernel
theorem dX0_roundedQuotient_68 : decode cX0_roundedQuotient 68 = .ok (.lload 8, 2) := by decide +kernel
theorem dX0_roundedQuotient_70 : decode cX0_roundedQuotient 70 = .ok (.goto 6, 3) := by decide +kernel
theorem dX0_roundedQuotient_73 : decode cX0_roundedQuotient 73 = .ok (.lload 8, 2) := by decide +kernel
theorem dX0_roundedQuotient_75 : decode cX0_roundedQuotient 75 = .ok (.lneg, 1) := by decide +kernel
theorem dX0_roundedQuotient_76 : decode cX0_roundedQuotient 76 = .ok (.lreturn, 1) := by decide +kernel
theorem dX0_printedByte_0 : decode cX0_printedByte 0 = .ok (.lload_n 0, 1) := by decide +kernel
theorem dX0_printedByte_1 : decode cX0_printedByte 1 = .ok (.ldc2_w 60, 3) := by decide +kernel
theorem dX0_printedByte_4 : decode cX0_printedByte 4 = .ok (.ldiv, 1) := by decide +kernel
theorem dX0_printedByte_5 : decode cX0_printedByte 5 = .ok (.lstore_n 3, 1) := by decide +kernel
theorem dX0_printedByte_6 : decode cX0_printedByte 6 = .ok (.lload_n 3, 1) := by decide +kernel
theorem dX0_printedByte_7 : decode cX0_printedByte 7 = .ok (.invokestatic 78, 3) := by decide +kernel
theorem dX0_printedByte_10 : decode cX0_printedByte 10 = .ok (.istore 5, 2) := by decide +kernel
theorem dX0_printedByte_12 : decode cX0_printedByte 12 = .ok (.iload_n 2, 1) := by decide +kernel
theorem dX0_printedByte_13 : decode cX0_printedByte 13 = .ok (.iload 5, 2) := by decide +kernel
theorem dX0_printedByte_15 : decode cX0_printedByte 15 = .ok (.if_icmp .ge 14, 3) := by decide +kernel
theorem dX0_printedByte_18 : decode cX0_printedByte 18 = .ok (.lload_n 3, 1) := by decide +kernel
theorem dX0_printedByte_19 : decode cX0_printedByte 19 = .ok (.iload 5, 2) := by decide +kernel
theorem dX0_printedByte_21 : decode cX0_printedByte 21 = .ok (.iconst 1, 1) := by decide +kernel
theorem dX0_printedByte_22 : decode cX0_printedByte 22 = .ok (.isub, 1) := by decide +kernel
theorem dX0_printedByte_23 : decode cX0_printedByte 23 = .ok (.iload_n 2, 1) := by decide +kernel
theorem dX0_printedByte_24 : decode cX0_printedByte 24 = .ok (.isub, 1) := by decide +kernel
theorem dX0_printedByte_25 : decode cX0_printedByte 25 = .ok (.invokestatic 82, 3) := by decide +kernel
theorem dX0_printedByte_28 : decode cX0_printedByte 28 = .ok (.ireturn, 1) := by decide +kernel
theorem dX0_printedByte_29 : decode cX0_printedByte 29 = .ok (.lload_n 0, 1) := by decide +kernel
theorem dX0_printedByte_30 : decode cX0_printedByte 30 = .ok (.ldc2_w 60, 3) := by decide +kernel
theorem dX0_printedByte_33 : decode cX0_printedByte 33 = .ok (.lrem, 1) := by decide +kernel
theorem dX0_printedByte_34 : decode cX0_printedByte 34 = .ok (.iload_n 2, 1) := by decide +kernel
theorem dX0_printedByte_35 : decode cX0_printedByte 35 = .ok (.iload 5, 2) := by decide +kernel
theorem dX0_printedByte_37 : decode cX0_printedByte 37 = .ok (.isub, 1) := by decide +kernel
theorem dX0_printedByte_38 : decode cX0_printedByte 38 = .ok (.invokestatic 85, 3) := by decide +kernel
theorem dX0_printedByte_41 : decode cX0_printedByte 41 = .ok (.ireturn, 1) := by decide +kernel
theorem dX0_byteBehindWhole_0 : decode cX0_byteBehindWhole 0 = .ok (.iload_n 2, 1) := by decide +kernel
theorem dX0_byteBehindWhole_1 : decode cX0_byteBehindWhole 1 = .ok (.iconst 4, 1) := by decide +kernel
theorem dX0_byteBehindWhole_2 : decode cX0_byteBehindWhole 2 = .ok (.if_icmp .gt 9, 3) := by decide +kernel
theorem dX0_byteBehindWhole_5 : decode cX0_byteBehindWhole 5 = .ok (.lload_n 0, 1) := by decide +kernel
theorem dX0_byteBehindWhole_6 : decode cX0_byteBehindWhole 6 = .ok (.lconst 0, 1) := by decide +kernel
theorem dX0_byteBehindWhole_7 : decode cX0_byteBehindWhole 7 = .ok (.lcmp, 1) := by decide +kernel
theorem dX0_byteBehindWhole_8 : decode cX0_byteBehindWhole 8 = .ok (.ifCond .ne 5, 3) := by decide +kernel
theorem dX0_byteBehindWhole_11 : decode cX0_byteBehindWhole 11 = .ok (.iconst (-1), 1) := by decide +kernel
theorem dX0_byteBehindWhole_12 : decode cX0_byteBehindWhole 12 = .ok (.ireturn, 1) := by decide +kernel
theorem dX0_byteBehindWhole_13 : decode cX0_byteBehindWhole 13 = .ok (.iload_n 2, 1) := by decide +kernel
theorem dX0_byteBehindWhole_14 : decode cX0_byteBehindWhole 14 = .ok (.ifCond .ne 6, 3) := by decide +kernel
theorem dX0_byteBehindWhole_17 : decode cX0_byteBehindWhole 17 = .ok (.bipush 46, 2) := by decide +kernel
theorem dX0_byteBehindWhole_19 : decode cX0_byteBehindWhole 19 = .ok (.ireturn, 1) := by decide +kernel
theorem dX0_byteBehindWhole_20 : decode cX0_byteBehindWhole 20 = .ok (.iconst 4, 1) := by decide +kernel
theorem dX0_byteBehindWhole_21 : decode cX0_byteBehindWhole 21 = .ok (.iload_n 2, 1) := by decide +kernel
theorem dX0_byteBehindWhole_22 : decode cX0_byteBehindWhole 22 = .ok (.isub, 1) := by decide +kernel
theorem dX0_byteBehindWhole_23 : decode cX0_byteBehindWhole 23 = .ok (.istore_n 3, 1) := by decide +kernel
theorem dX0_byteBehindWhole_24 : decode cX0_byteBehindWhole 24 = .ok (.lload_n 0, 1) := by decide +kernel
theorem dX0_byteBehindWhole_25 : decode cX0_byteBehindWhole 25 = .ok (.getstatic 36, 3) := by decide +kernel
theorem dX0_byteBehindWhole_28 : decode cX0_byteBehindWhole 28 = .ok (.iload_n 3, 1) := by decide +kernel
theorem dX0_byteBehindWhole_29 : decode cX0_byteBehindWhole 29 = .ok (.iconst 1, 1) := by decide +kernel
theorem dX0_byteBehindWhole_30 : decode cX0_byteBehindWhole 30 = .ok (.iadd, 1) := by decide +kernel
theorem dX0_byteBehindWhole_31 : decode cX0_byteBehindWhole 31 = .ok (.laload, 1) := by decide +kernel
theorem dX0_byteBehindWhole_32 : decode cX0_byteBehindWhole 32 = .ok (.lrem, 1) := by decide +kernel
theorem dX0_byteBehindWhole_33 : decode cX0_byteBehindWhole 33 = .ok (.lconst 0, 1) := by decide +kernel
theorem dX0_byteBehindWhole_34 : decode cX0_byteBehindWhole 34 = .ok (.lcmp, 1) := by decide +kernel
theorem dX0_byteBehindWhole_35 : decode cX0_byteBehindWhole 35 = .ok (.ifCond .ne 7, 3) := by decide +kernel
theorem dX0_byteBehindWhole_38 : decode cX0_byteBehindWhole 38 = .ok (.iconst 1, 1) := by decide +kernel
theorem dX0_byteBehindWhole_39 : decode cX0_byteBehindWhole 39 = .ok (.goto 4, 3) := by decide +kernel
theorem dX0_byteBehindWhole_42 : decode cX0_byteBehindWhole 42 = .ok (.iconst 0, 1) := by decide +kernel
theorem dX0_byteBehindWhole_43 : decode cX0_byteBehindWhole 43 = .ok (.istore 4, 2) := by decide +kernel
theorem dX0_byteBehindWhole_45 : decode cX0_byteBehindWhole 45 = .ok (.iload 4, 2) := by decide +kernel
theorem dX0_byteBehindWhole_47 : decode cX0_byteBehindWhole 47 = .ok (.ifCond .eq 7, 3) := by decide +kernel
theorem dX0_byteBehindWhole_50 : decode cX0_byteBehindWhole 50 = .ok (.iconst (-1), 1) := by decide +kernel
theorem dX0_byteBehindWhole_51 : decode cX0_byteBehindWhole 51 = .ok (.goto 8, 3) := by decide +kernel
theorem dX0_byteBehindWhole_54 : decode cX0_byteBehindWhole 54 = .ok (.lload_n 0, 1) := by decide +kernel
theorem dX0_byteBehindWhole_55 : decode cX0_byteBehindWhole 55 = .ok (.iload_n 3, 1) := by decide +kernel
theorem dX0_byteBehindWhole_56 : decode cX0_byteBehindWhole 56 = .ok (.invokestatic 82, 3) := by decide +kernel
theorem dX0_byteBehindWhole_59 : decode cX0_byteBehindWhole 59 = .ok (.ireturn, 1) := by decide +kernel
theorem dX0_wholeDigits_0 : decode cX0_wholeDigits 0 = .ok (.iconst 1, 1) := by decide +kernel
theorem dX0_wholeDigits_1 : decode cX0_wholeDigits 1 = .ok (.istore_n 2, 1) := by decide +kernel
theorem dX0_wholeDigits_2 : decode cX0_wholeDigits 2 = .ok (.iload_n 2, 1) := by decide +kernel
theorem dX0_wholeDigits_3 : decode cX0_wholeDigits 3 = .ok (.bipush 11, 2) := by decide +kernel
theorem dX0_wholeDigits_5 : decode cX0_wholeDigits 5 = .ok (.if_icmp .ge 19, 3) := by decide +kernel
theorem dX0_wholeDigits_8 : decode cX0_wholeDigits 8 = .ok (.lload_n 0, 1) := by decide +kernel
theorem dX0_wholeDigits_9 : decode cX0_wholeDigits 9 = .ok (.getstatic 36, 3) := by decide +kernel
theorem dX0_wholeDigits_12 : decode cX0_wholeDigits 12 = .ok (.iload_n 2, 1) := by decide +kernel
theorem dX0_wholeDigits_13 : decode cX0_wholeDigits 13 = .ok (.laload, 1) := by decide +kernel
theorem dX0_wholeDigits_14 : decode cX0_wholeDigits 14 = .ok (.lcmp, 1) := by decide +kernel
theorem dX0_wholeDigits_15 : decode cX0_wholeDigits 15 = .ok (.ifCond .lt 9, 3) := by decide +kernel
theorem dX0_wholeDigits_18 : decode cX0_wholeDigits 18 = .ok (.iinc 2 1, 3) := by decide +kernel
theorem dX0_wholeDigits_21 : decode cX0_wholeDigits 21 = .ok (.goto (-19), 3) := by decide +kernel
theorem dX0_wholeDigits_24 : decode cX0_wholeDigits 24 = .ok (.iload_n 2, 1) := by decide +kernel
theorem dX0_wholeDigits_25 : decode cX0_wholeDigits 25 = .ok (.ireturn, 1) := by decide +kernel
theorem dX0_digit_0 : decode cX0_digit 0 = .ok (.bipush 48, 2) := by decide +kernel
theorem dX0_digit_2 : decode cX0_digit 2 = .ok (.lload_n 0, 1) := by decide +kernel
theorem dX0_digit_3 : decode cX0_digit 3 = .ok (.getstatic 36, 3) := by decide +kernel
theorem dX0_digit_6 : decode cX0_digit 6 = .ok (.iload_n 2, 1) := by decide +kernel
theorem dX0_digit_7 : decode cX0_digit 7 = .ok (.laload, 1) := by decide +kernel
theorem dX0_digit_8 : decode cX0_digit 8 = .ok (.ldiv, 1) := by decide +kernel
theorem dX0_digit_9 : decode cX0_digit 9 = .ok (.ldc2_w 88, 3) := by decide +kernel
theorem dX0_digit_12 : decode cX0_digit 12 = .ok (.lrem, 1) := by decide +kernel
theorem dX0_digit_13 : decode cX0_digit 13 = .ok (.l2i, 1) := by decide +kernel
theorem dX0_digit_14 : decode cX0_digit 14 = .ok (.iadd, 1) := by decide +kernel
theorem dX0_digit_15 : decode cX0_digit 15 = .ok (.ireturn, 1) := by decide +kernel
theorem dX1_init_0 : decode cX1_init 0 = .ok (.aload_n 0, 1) := by decide +kernel
theorem dX1_init_1 : decode cX1_init 1 = .ok (.invokespecial 1, 3) := by decide +kernel
theorem dX1_init_4 : decode cX1_init 4 = .ok (.aload_n 0, 1) := by decide +kernel
theorem dX1_init_5 : decode cX1_init 5 = .ok (.bipush 8, 2) := by decide +kernel
theorem dX1_init_7 : decode cX1_init 7 = .ok (.newarray .long, 2) := by decide +kernel
theorem dX1_init_9 : decode cX1_init 9 = .ok (.putfield 7, 3) := by decide +kernel
theorem dX1_init_12 : decode cX1_init 12 = .ok (.aload_n 0, 1) := by decide +kernel
theorem dX1_init_13 : decode cX1_init 13 = .ok (.bipush 24, 2) := by decide +kernel
theorem dX1_init_15 : decode cX1_init 15 = .ok (.newarray .int, 2) := by decide +kernel
theorem dX1_init_17 : decode cX1_init 17 = .ok (.putfield 13, 3) := by decide +kernel
theorem dX1_init_20 : decode cX1_init 20 = .ok (.return_, 1) := by decide +kernel
theorem dJ9_floorDiv_f86c9_0 : decode cJ9_floorDiv_f86c9 0 = .ok (.lload_n 0, 1) := by decide +kernel
theorem dJ9_floorDiv_f86c9_1 : decode cJ9_floorDiv_f86c9 1 = .ok (.lload_n 2, 1) := by decide +kernel
theorem dJ9_floorDiv_f86c9_2 : decode cJ9_floorDiv_f86c9 2 = .ok (.ldiv, 1) := by decide +kernel
theorem dJ9_floorDiv_f86c9_3 : decode cJ9_floorDiv_f86c9 3 = .ok (.lstore 4, 2) := by decide +kernel
theorem dJ9_floorDiv_f86c9_5 : decode cJ9_floorDiv_f86c9 5 = .ok (.lload_n 0, 1) := by decide +kernel
theorem dJ9_floorDiv_f86c9_6 : decode cJ9_floorDiv_f86c9 6 = .ok (.lload_n 2, 1) := by decide +kernel
theorem dJ9_floorDiv_f86c9_7 : decode cJ9_floorDiv_f86c9 7 = .ok (.lxor, 1) := by decide +kernel
theorem dJ9_floorDiv_f86c9_8 : decode cJ9_floorDiv_f86c9 8 = .ok (.lconst 0, 1) := by decide +kernel
theorem dJ9_floorDiv_f86c9_9 : decode cJ9_floorDiv_f86c9 9 = .ok (.lcmp, 1) := by decide +kernel
theorem dJ9_floorDiv_f86c9_10 : decode cJ9_floorDiv_f86c9 10 = .ok (.ifCond .ge 17, 3) := by decide +kernel
theorem dJ9_floorDiv_f86c9_13 : decode cJ9_floorDiv_f86c9 13 = .ok (.lload 4, 2) := by decide +kernel
theorem dJ9_floorDiv_f86c9_15 : decode cJ9_floorDiv_f86c9 15 = .ok (.lload_n 2, 1) := by decide +kernel
theorem dJ9_floorDiv_f86c9_16 : decode cJ9_floorDiv_f86c9 16 = .ok (.lmul, 1) := by decide +kernel
theorem dJ9_floorDiv_f86c9_17 : decode cJ9_floorDiv_f86c9 17 = .ok (.lload_n 0, 1) := by decide +kernel
theorem dJ9_floorDiv_f86c9_18 : decode cJ9_floorDiv_f86c9 18 = .ok (.lcmp, 1) := by decide +kernel
theorem dJ9_floorDiv_f86c9_19 : decode cJ9_floorDiv_f86c9 19 = .ok (.ifCond .eq 8, 3) := by decide +kernel
theorem dJ9_floorDiv_f86c9_22 : decode cJ9_floorDiv_f86c9 22 = .ok (.lload 4, 2) := by decide +kernel
theorem dJ9_floorDiv_f86c9_24 : decode cJ9_floorDiv_f86c9 24 = .ok (.lconst 1, 1) := by decide +kernel
theorem dJ9_floorDiv_f86c9_25 : decode cJ9_floorDiv_f86c9 25 = .ok (.lsub, 1) := by decide +kernel
theorem dJ9_floorDiv_f86c9_26 : decode cJ9_floorDiv_f86c9 26 = .ok (.lreturn, 1) := by decide +kernel
theorem dJ9_floorDiv_f86c9_27 : decode cJ9_floorDiv_f86c9 27 = .ok (.lload 4, 2) := by decide +kernel
theorem dJ9_floorDiv_f86c9_29 : decode cJ9_floorDiv_f86c9 29 = .ok (.lreturn, 1) := by decide +kernel
theorem dJ9_floorMod_f86c9_0 : decode cJ9_floorMod_f86c9 0 = .ok (.lload_n 0, 1) := by decide +kernel
theorem dJ9_floorMod_f86c9_1 : decode cJ9_floorMod_f86c9 1 = .ok (.lload_n 2, 1) := by decide +kernel
theorem dJ9_floorMod_f86c9_2 : decode cJ9_floorMod_f86c9 2 = .ok (.lrem, 1) := by decide +kernel
theorem dJ9_floorMod_f86c9_3 : decode cJ9_floorMod_f86c9 3 = .ok (.lstore 4, 2) := by decide +kernel
theorem dJ9_floorMod_f86c9_5 : decode cJ9_floorMod_f86c9 5 = .ok (.lload_n 0, 1) := by decide +kernel
theorem dJ9_floorMod_f86c9_6 : decode cJ9_floorMod_f86c9 6 = .ok (.lload_n 2, 1) := by decide +kernel
theorem dJ9_floorMod_f86c9_7 : decode cJ9_floorMod_f86c9 7 = .ok (.lxor, 1) := by decide +kernel
theorem dJ9_floorMod_f86c9_8 : decode cJ9_floorMod_f86c9 8 = .ok (.lconst 0, 1) := by decide +kernel
theorem dJ9_floorMod_f86c9_9 : decode cJ9_floorMod_f86c9 9 = .ok (.lcmp, 1) := by decide +kernel
theorem dJ9_floorMod_f86c9_10 : decode cJ9_floorMod_f86c9 10 = .ok (.ifCond .ge 15, 3) := by decide +kernel
theorem dJ9_floorMod_f86c9_13 : decode cJ9_floorMod_f86c9 13 = .ok (.lload 4, 2) := by decide +kernel
theorem dJ9_floorMod_f86c9_15 : decode cJ9_floorMod_f86c9 15 = .ok (.lconst 0, 1) := by decide +kernel
theorem dJ9_floorMod_f86c9_16 : decode cJ9_floorMod_f86c9 16 = .ok (.lcmp, 1) := by decide +kernel
theorem dJ9_floorMod_f86c9_17 : decode cJ9_floorMod_f86c9 17 = .ok (.ifCond .eq 8, 3) := by decide +kernel
theorem dJ9_floorMod_f86c9_20 : decode cJ9_floorMod_f86c9 20 = .ok (.lload 4, 2) := by decide +kernel
theorem dJ9_floorMod_f86c9_22 : decode cJ9_floorMod_f86c9 22 = .ok (.lload_n 2, 1) := by decide +kernel
theorem dJ9_floorMod_f86c9_23 : decode cJ9_floorMod_f86c9 23 = .ok (.ladd, 1) := by decide +kernel
theorem dJ9_floorMod_f86c9_24 : decode cJ9_floorMod_f86c9 24 = .ok (.lreturn, 1) := by decide +kernel
theorem dJ9_floorMod_f86c9_25 : decode cJ9_floorMod_f86c9 25 = .ok (.lload 4, 2) := by decide +kernel
theorem dJ9_floorMod_f86c9_27 : decode cJ9_floorMod_f86c9 27 = .ok (.lreturn, 1) := by decide +kernel
theorem dJ9_abs_067f4_0 : decode cJ9_abs_067f4 0 = .ok (.lload_n 0, 1) := by decide +kernel
theorem dJ9_abs_067f4_1 : decode cJ9_abs_067f4 1 = .ok (.lconst 0, 1) := by decide +kernel
theorem dJ9_abs_067f4_2 : decode cJ9_abs_067f4 2 = .ok (.lcmp, 1) := by decide +kernel
theorem dJ9_abs_067f4_3 : decode cJ9_abs_067f4 3 = .ok (.ifCond .ge 8, 3) := by decide +kernel
theorem dJ9_abs_067f4_6 : decode cJ9_abs_067f4 6 = .ok (.lload_n 0, 1) := by decide +kernel
theorem dJ9_abs_067f4_7 : decode cJ9_abs_067f4 7 = .ok (.lneg, 1) := by decide +kernel
theorem dJ9_abs_067f4_8 : decode cJ9_abs_067f4 8 = .ok (.goto 4, 3) := by decide +kernel
theorem dJ9_abs_067f4_11 : decode cJ9_abs_067f4 11 = .ok (.lload_n 0, 1) := by decide +kernel
theorem dJ9_abs_067f4_12 : decode cJ9_abs_067f4 12 = .ok (.lreturn, 1) := by decide +kernel
theorem dL_set_0 : decode cL_set 0 = .ok (.aload 4, 2) := by decide +kernel
theorem dL_set_2 : decode cL_set 2 = .ok (.iconst 0, 1) := by decide +kernel
theorem dL_set_3 : decode cL_set 3 = .ok (.aload_n 0, 1) := by decide +kernel
theorem dL_set_4 : decode cL_set 4 = .ok (.iload_n 1, 1) := by decide +kernel
theorem dL_set_5 : decode cL_set 5 = .ok (.lload_n 2, 1) := by decide +kernel
theorem dL_set_6 : decode cL_set 6 = .ok (.invokevirtual 7, 3) := by decide +kernel
theorem dL_set_9 : decode cL_set 9 = .ok (.lastore, 1) := by decide +kernel
theorem dL_set_10 : decode cL_set 10 = .ok (.goto 7, 3) := by decide +kernel
theorem dL_set_13 : decode cL_set 13 = .ok (.astore 5, 2) := by decide +kernel
theorem dL_set_15 : decode cL_set 15 = .ok (.iconst 1, 1) := by decide +kernel
theorem dL_set_16 : decode cL_set 16 = .ok (.ireturn, 1) := by decide +kernel
theorem dL_set_17 : decode cL_set 17 = .ok (.iconst 0, 1) := by decide +kernel
theorem dL_set_18 : decode cL_set 18 = .ok (.ireturn, 1) := by decide +kernel
theorem dL_get_0 : decode cL_get 0 = .ok (.aload_n 2, 1) := by decide +kernel
theorem dL_get_1 : decode cL_get 1 = .ok (.iconst 0, 1) := by decide +kernel
theorem dL_get_2 : decode cL_get 2 = .ok (.aload_n 0, 1) := by decide +kernel
theorem dL_get_3 : decode cL_get 3 = .ok (.iload_n 1, 1) := by decide +kernel
theorem dL_get_4 : decode cL_get 4 = .ok (.invokevirtual 15, 3) := by decide +kernel
theorem dL_get_7 : decode cL_get 7 = .ok (.lastore, 1) := by decide +kernel
theorem dL_get_8 : decode cL_get 8 = .ok (.goto 6, 3) := by decide +kernel
theorem dL_get_11 : decode cL_get 11 = .ok (.astore_n 3, 1) := by decide +kernel
theorem dL_get_12 : decode cL_get 12 = .ok (.iconst 1, 1) := by decide +kernel
theorem dL_get_13 : decode cL_get 13 = .ok (.ireturn, 1) := by decide +kernel
theorem dL_get_14 : decode cL_get 14 = .ok (.iconst 0, 1) := by decide +kernel
theorem dL_get_15 : decode cL_get 15 = .ok (.ireturn, 1) := by decide +kernel
theorem dL_reckon_0 : decode cL_reckon 0 = .ok (.aload 5, 2) := by decide +kernel
theorem dL_reckon_2 : decode cL_reckon 2 = .ok (.iconst 0, 1) := by decide +kernel
theorem dL_reckon_3 : decode cL_reckon 3 = .ok (.aload_n 0, 1) := by decide +kernel
theorem dL_reckon_4 : decode cL_reckon 4 = .ok (.iload_n 1, 1) := by decide +kernel
theorem dL_reckon_5 : decode cL_reckon 5 = .ok (.iload_n 2, 1) := by decide +kernel
theorem dL_reckon_6 : decode cL_reckon 6 = .ok (.iload_n 3, 1) := by decide +kernel
theorem dL_reckon_7 : decode cL_reckon 7 = .ok (.iload 4, 2) := by decide +kernel
theorem dL_reckon_9 : decode cL_reckon 9 = .ok (.invokevirtual 19, 3) := by decide +kernel
theorem dL_reckon_12 : decode cL_reckon 12 = .ok (.lastore, 1) := by decide +kernel
theorem dL_reckon_13 : decode cL_reckon 13 = .ok (.goto 15, 3) := by decide +kernel
theorem dL_reckon_16 : decode cL_reckon 16 = .ok (.astore 6, 2) := by decide +kernel
theorem dL_reckon_18 : decode cL_reckon 18 = .ok (.iconst 1, 1) := by decide +kernel
theorem dL_reckon_19 : decode cL_reckon 19 = .ok (.ireturn, 1) := by decide +kernel
theorem dL_reckon_20 : decode cL_reckon 20 = .ok (.astore 6, 2) := by decide +kernel
theorem dL_reckon_22 : decode cL_reckon 22 = .ok (.iconst 2, 1) := by decide +kernel
theorem dL_reckon_23 : decode cL_reckon 23 = .ok (.ireturn, 1) := by decide +kernel
theorem dL_reckon_24 : decode cL_reckon 24 = .ok (.astore 6, 2) := by decide +kernel
theorem dL_reckon_26 : decode cL_reckon 26 = .ok (.iconst 3, 1) := by decide +kernel
theorem dL_reckon_27 : decode cL_reckon 27 = .ok (.ireturn, 1) := by decide +kernel
theorem dL_reckon_28 : decode cL_reckon 28 = .ok (.iconst 0, 1) := by decide +kernel
theorem dL_reckon_29 : decode cL_reckon 29 = .ok (.ireturn, 1) := by decide +kernel
theorem dL_turn_0 : decode cL_turn 0 = .ok (.aload 4, 2) := by decide +kernel
theorem dL_turn_2 : decode cL_turn 2 = .ok (.iconst 0, 1) := by decide +kernel
theorem dL_turn_3 : decode cL_turn 3 = .ok (.aload_n 0, 1) := by decide +kernel
theorem dL_turn_4 : decode cL_turn 4 = .ok (.iload_n 1, 1) := by decide +kernel
theorem dL_turn_5 : decode cL_turn 5 = .ok (.iload_n 2, 1) := by decide +kernel
theorem dL_turn_6 : decode cL_turn 6 = .ok (.iload_n 3, 1) := by decide +kernel
theorem dL_turn_7 : decode cL_turn 7 = .ok (.invokevirtual 27, 3) := by decide +kernel
theorem dL_turn_10 : decode cL_turn 10 = .ok (.lastore, 1) := by decide +kernel
theorem dL_turn_11 : decode cL_turn 11 = .ok (.goto 11, 3) := by decide +kernel
theorem dL_turn_14 : decode cL_turn 14 = .ok (.astore 5, 2) := by decide +kernel
theorem dL_turn_16 : decode cL_turn 16 = .ok (.iconst 1, 1) := by decide +kernel
theorem dL_turn_17 : decode cL_turn 17 = .ok (.ireturn, 1) := by decide +kernel
theorem dL_turn_18 : decode cL_turn 18 = .ok (.astore 5, 2) := by decide +kernel
theorem dL_turn_20 : decode cL_turn 20 = .ok (.iconst 2, 1) := by decide +kernel
theorem dL_turn_21 : decode cL_turn 21 = .ok (.ireturn, 1) := by decide +kernel
theorem dL_turn_22 : decode cL_turn 22 = .ok (.iconst 0, 1) := by decide +kernel
theorem dL_turn_23 : decode cL_turn 23 = .ok (.ireturn, 1) := by decide +kernel
theorem dL_round_0 : decode cL_round 0 = .ok (.aload 4, 2) := by decide +kernel
theorem dL_round_2 : decode cL_round 2 = .ok (.iconst 0, 1) := by decide +kernel
theorem dL_round_3 : decode cL_round 3 = .ok (.aload_n 0, 1) := by decide +kernel
theorem dL_round_4 : decode cL_round 4 = .ok (.iload_n 1, 1) := by decide +kernel
theorem dL_round_5 : decode cL_round 5 = .ok (.iload_n 2, 1) := by decide +kernel
theorem dL_round_6 : decode cL_round 6 = .ok (.iload_n 3, 1) := by decide +kernel
theorem dL_round_7 : decode cL_round 7 = .ok (.invokevirtual 31, 3) := by decide +kernel
theorem dL_round_10 : decode cL_round 10 = .ok (.lastore, 1) := by decide +kernel
theorem dL_round_11 : decode cL_round 11 = .ok (.goto 11, 3) := by decide +kernel
theorem dL_round_14 : decode cL_round 14 = .ok (.astore 5, 2) := by decide +kernel
theorem dL_round_16 : decode cL_round 16 = .ok (.iconst 1, 1) := by decide +kernel
theorem dL_round_17 : decode cL_round 17 = .ok (.ireturn, 1) := by decide +kernel
theorem dL_round_18 : decode cL_round 18 = .ok (.astore 5, 2) := by decide +kernel
theorem dL_round_20 : decode cL_round 20 = .ok (.iconst 2, 1) := by decide +kernel
theorem dL_round_21 : decode cL_round 21 = .ok (.ireturn, 1) := by decide +kernel
theorem dL_round_22 : decode cL_round 22 = .ok (.iconst 0, 1) := by decide +kernel
theorem dL_round_23 : decode cL_round 23 = .ok (.ireturn, 1) := by decide +kernel
theorem dL_print_0 : decode cL_print 0 = .ok (.aload_n 3, 1) := by decide +kernel
theorem dL_print_1 : decode cL_print 1 = .ok (.iconst 0, 1) := by decide +kernel
theorem dL_print_2 : decode cL_print 2 = .ok (.aload_n 0, 1) := by decide +kernel
theorem dL_print_3 : decode cL_print 3 = .ok (.iload_n 1, 1) := by decide +kernel
theorem dL_print_4 : decode cL_print 4 = .ok (.iload_n 2, 1) := by decide +kernel
theorem dL_print_5 : decode cL_print 5 = .ok (.invokevirtual 34, 3) := by decide +kernel
theorem dL_print_8 : decode cL_print 8 = .ok (.i2l, 1) := by decide +kernel
theorem dL_print_9 : decode cL_print 9 = .ok (.lastore, 1) := by decide +kernel
theorem dL_print_10 : decode cL_print 10 = .ok (.goto 7, 3) := by decide +kernel
theorem dL_print_13 : decode cL_print 13 = .ok (.astore 4, 2) := by decide +kernel
theorem dL_print_15 : decode cL_print 15 = .ok (.iconst 1, 1) := by decide +kernel
theorem dL_print_16 : decode cL_print 16 = .ok (.ireturn, 1) := by decide +kernel
theorem dL_print_17 : decode cL_print 17 = .ok (.iconst 0, 1) := by decide +kernel
theorem dL_print_18 : decode cL_print 18 = .ok (.ireturn, 1) := by decide +kernel
theorem dL_average_0 : decode cL_average 0 = .ok (.aload_n 2, 1) := by decide +kernel
theorem dL_average_1 : decode cL_average 1 = .ok (.iconst 0, 1) := by decide +kernel
theorem dL_average_2 : decode cL_average 2 = .ok (.aload_n 0, 1) := by decide +kernel
theorem dL_average_3 : decode cL_average 3 = .ok (.iload_n 1, 1) := by decide +kernel
theorem dL_average_4 : decode cL_average 4 = .ok (.invokevirtual 38, 3) := by decide +kernel
theorem dL_average_7 : decode cL_average 7 = .ok (.lastore, 1) := by decide +kernel
theorem dL_average_8 : decode cL_average 8 = .ok (.goto 9, 3) := by decide +kernel
theorem dL_average_11 : decode cL_average 11 = .ok (.astore_n 3, 1) := by decide +kernel
theorem dL_average_12 : decode cL_average 12 = .ok (.iconst 1, 1) := by decide +kernel
theorem dL_average_13 : decode cL_average 13 = .ok (.ireturn, 1) := by decide +kernel
theorem dL_average_14 : decode cL_average 14 = .ok (.astore_n 3, 1) := by decide +kernel
theorem dL_average_15 : decode cL_average 15 = .ok (.iconst 2, 1) := by decide +kernel
theorem dL_average_16 : decode cL_average 16 = .ok (.ireturn, 1) := by decide +kernel
theorem dL_average_17 : decode cL_average 17 = .ok (.iconst 0, 1) := by decide +kernel
theorem dL_average_18 : decode cL_average 18 = .ok (.ireturn, 1) := by decide +kernel
theorem dL_law_0 : decode cL_law 0 = .ok (.new 8, 3) := by decide +kernel
theorem dL_law_3 : decode cL_law 3 = .ok (.dup, 1) := by decide +kernel
theorem dL_law_4 : decode cL_law 4 = .ok (.invokespecial 41, 3) := by decide +kernel
theorem dL_law_7 : decode cL_law 7 = .ok (.astore_n 1, 1) := by decide +kernel
theorem dL_law_8 : decode cL_law 8 = .ok (.new 42, 3) := by decide +kernel
theorem dL_law_11 : decode cL_law 11 = .ok (.dup, 1) := by decide +kernel
theorem dL_law_12 : decode cL_law 12 = .ok (.invokespecial 44, 3) := by decide +kernel
theorem dL_law_15 : decode cL_law 15 = .ok (.astore_n 2, 1) := by decide +kernel
theorem dL_law_16 : decode cL_law 16 = .ok (.iconst 1, 1) := by decide +kernel
theorem dL_law_17 : decode cL_law 17 = .ok (.newarray .long, 2) := by decide +kernel
theorem dL_law_19 : decode cL_law 19 = .ok (.astore_n 3, 1) := by decide +kernel
theorem dL_law_20 : decode cL_law 20 = .ok (.iconst 0, 1) := by decide +kernel
theorem dL_law_21 : decode cL_law 21 = .ok (.istore 4, 2) := by decide +kernel
theorem dL_law_23 : decode cL_law 23 = .ok (.iload 4, 2) := by decide +kernel
theorem dL_law_25 : decode cL_law 25 = .ok (.aload_n 0, 1) := by decide +kernel
theorem dL_law_26 : decode cL_law 26 = .ok (.arraylength, 1) := by decide +kernel
theorem dL_law_27 : decode cL_law 27 = .ok (.iconst 5, 1) := by decide +kernel
theorem dL_law_28 : decode cL_law 28 = .ok (.isub, 1) := by decide +kernel
theorem dL_law_29 : decode cL_law 29 = .ok (.if_icmp .gt 583, 3) := by decide +kernel
theorem dL_law_32 : decode cL_law 32 = .ok (.aload_n 0, 1) := by decide +kernel
theorem dL_law_33 : decode cL_law 33 = .ok (.iload 4, 2) := by decide +kernel
theorem dL_law_35 : decode cL_law 35 = .ok (.iaload, 1) := by decide +kernel
theorem dL_law_36 : decode cL_law 36 = .ok (.bipush 7, 2) := by decide +kernel
theorem dL_law_38 : decode cL_law 38 = .ok (.iand, 1) := by decide +kernel
theorem dL_law_39 : decode cL_law 39 = .ok (.tableswitch 567 0 6 #[41, 140, 195, 286, 365, 444, 512], 41) := by decide +kernel
theorem dL_law_80 : decode cL_law 80 = .ok (.aload_n 1, 1) := by decide +kernel
theorem dL_law_81 : decode cL_law 81 = .ok (.aload_n 0, 1) := by decide +kernel
theorem dL_law_82 : decode cL_law 82 = .ok (.iload 4, 2) := by decide +kernel
theorem dL_law_84 : decode cL_law 84 = .ok (.iconst 1, 1) := by decide +kernel
theorem dL_law_85 : decode cL_law 85 = .ok (.iadd, 1) := by decide +kernel
theorem dL_law_86 : decode cL_law 86 = .ok (.iaload, 1) := by decide +kernel
theorem dL_law_87 : decode cL_law 87 = .ok (.aload_n 0, 1) := by decide +kernel
theorem dL_law_88 : decode cL_law 88 = .ok (.iload 4, 2) := by decide +kernel
theorem dL_law_90 : decode cL_law 90 = .ok (.iconst 2, 1) := by decide +kernel
theorem dL_law_91 : decode cL_law 91 = .ok (.iadd, 1) := by decide +kernel
theorem dL_law_92 : decode cL_law 92 = .ok (.iaload, 1) := by decide +kernel
theorem dL_law_93 : decode cL_law 93 = .ok (.i2l, 1) := by decide +kernel
theorem dL_law_94 : decode cL_law 94 = .ok (.bipush 32, 2) := by decide +kernel
theorem dL_law_96 : decode cL_law 96 = .ok (.lshl, 1) := by decide +kernel
theorem dL_law_97 : decode cL_law 97 = .ok (.aload_n 0, 1) := by decide +kernel
theorem dL_law_98 : decode cL_law 98 = .ok (.iload 4, 2) := by decide +kernel
theorem dL_law_100 : decode cL_law 100 = .ok (.iconst 3, 1) := by decide +kernel
theorem dL_law_101 : decode cL_law 101 = .ok (.iadd, 1) := by decide +kernel
theorem dL_law_102 : decode cL_law 102 = .ok (.iaload, 1) := by decide +kernel
theorem dL_law_103 : decode cL_law 103 = .ok (.i2l, 1) := by decide +kernel
theorem dL_law_104 : decode cL_law 104 = .ok (.ldc2_w 45, 3) := by decide +kernel
theorem dL_law_107 : decode cL_law 107 = .ok (.land, 1) := by decide +kernel
theorem dL_law_108 : decode cL_law 108 = .ok (.lor, 1) := by decide +kernel
theorem dL_law_109 : decode cL_law 109 = .ok (.aload_n 3, 1) := by decide +kernel
theorem dL_law_110 : decode cL_law 110 = .ok (.invokestatic 47, 3) := by decide +kernel
theorem dL_law_113 : decode cL_law 113 = .ok (.istore 5, 2) := by decide +kernel
theorem dL_law_115 : decode cL_law 115 = .ok (.aload_n 2, 1) := by decide +kernel
theorem dL_law_116 : decode cL_law 116 = .ok (.aload_n 0, 1) := by decide +kernel
theorem dL_law_117 : decode cL_law 117 = .ok (.iload 4, 2) := by decide +kernel
theorem dL_law_119 : decode cL_law 119 = .ok (.iconst 1, 1) := by decide +kernel
theorem dL_law_120 : decode cL_law 120 = .ok (.iadd, 1) := by decide +kernel
theorem dL_law_121 : decode cL_law 121 = .ok (.iaload, 1) := by decide +kernel
theorem dL_law_122 : decode cL_law 122 = .ok (.aload_n 0, 1) := by decide +kernel
theorem dL_law_123 : decode cL_law 123 = .ok (.iload 4, 2) := by decide +kernel
theorem dL_law_125 : decode cL_law 125 = .ok (.iconst 2, 1) := by decide +kernel
theorem dL_law_126 : decode cL_law 126 = .ok (.iadd, 1) := by decide +kernel
theorem dL_law_127 : decode cL_law 127 = .ok (.iaload, 1) := by decide +kernel
theorem dL_law_128 : decode cL_law 128 = .ok (.i2l, 1) := by decide +kernel
theorem dL_law_129 : decode cL_law 129 = .ok (.bipush 32, 2) := by decide +kernel
theorem dL_law_131 : decode cL_law 131 = .ok (.lshl, 1) := by decide +kernel
theorem dL_law_132 : decode cL_law 132 = .ok (.aload_n 0, 1) := by decide +kernel
theorem dL_law_133 : decode cL_law 133 = .ok (.iload 4, 2) := by decide +kernel
theorem dL_law_135 : decode cL_law 135 = .ok (.iconst 3, 1) := by decide +kernel
theorem dL_law_136 : decode cL_law 136 = .ok (.iadd, 1) := by decide +kernel
theorem dL_law_137 : decode cL_law 137 = .ok (.iaload, 1) := by decide +kernel
theorem dL_law_138 : decode cL_law 138 = .ok (.i2l, 1) := by decide +kernel
theorem dL_law_139 : decode cL_law 139 = .ok (.ldc2_w 45, 3) := by decide +kernel
theorem dL_law_142 : decode cL_law 142 = .ok (.land, 1) := by decide +kernel
theorem dL_law_143 : decode cL_law 143 = .ok (.lor, 1) := by decide +kernel
theorem dL_law_144 : decode cL_law 144 = .ok (.invokevirtual 52, 3) := by decide +kernel
theorem dL_law_147 : decode cL_law 147 = .ok (.lstore 6, 2) := by decide +kernel
theorem dL_law_149 : decode cL_law 149 = .ok (.aload_n 2, 1) := by decide +kernel
theorem dL_law_150 : decode cL_law 150 = .ok (.invokevirtual 53, 3) := by decide +kernel
theorem dL_law_153 : decode cL_law 153 = .ok (.iload 5, 2) := by decide +kernel
theorem dL_law_155 : decode cL_law 155 = .ok (.if_icmp .eq 5, 3) := by decide +kernel
theorem dL_law_158 : decode cL_law 158 = .ok (.iconst 0, 1) := by decide +kernel
theorem dL_law_159 : decode cL_law 159 = .ok (.ireturn, 1) := by decide +kernel
theorem dL_law_160 : decode cL_law 160 = .ok (.iload 5, 2) := by decide +kernel
theorem dL_law_162 : decode cL_law 162 = .ok (.ifCond .ne 14, 3) := by decide +kernel
theorem dL_law_165 : decode cL_law 165 = .ok (.aload_n 3, 1) := by decide +kernel
theorem dL_law_166 : decode cL_law 166 = .ok (.iconst 0, 1) := by decide +kernel
theorem dL_law_167 : decode cL_law 167 = .ok (.laload, 1) := by decide +kernel
theorem dL_law_168 : decode cL_law 168 = .ok (.lload 6, 2) := by decide +kernel
theorem dL_law_170 : decode cL_law 170 = .ok (.lcmp, 1) := by decide +kernel
theorem dL_law_171 : decode cL_law 171 = .ok (.ifCond .eq 5, 3) := by decide +kernel
theorem dL_law_174 : decode cL_law 174 = .ok (.iconst 0, 1) := by decide +kernel
theorem dL_law_175 : decode cL_law 175 = .ok (.ireturn, 1) := by decide +kernel
theorem dL_law_176 : decode cL_law 176 = .ok (.goto 430, 3) := by decide +kernel
theorem dL_law_179 : decode cL_law 179 = .ok (.aload_n 1, 1) := by decide +kernel
theorem dL_law_180 : decode cL_law 180 = .ok (.aload_n 0, 1) := by decide +kernel
theorem dL_law_181 : decode cL_law 181 = .ok (.iload 4, 2) := by decide +kernel
theorem dL_law_183 : decode cL_law 183 = .ok (.iconst 1, 1) := by decide +kernel
theorem dL_law_184 : decode cL_law 184 = .ok (.iadd, 1) := by decide +kernel
theorem dL_law_185 : decode cL_law 185 = .ok (.iaload, 1) := by decide +kernel
theorem dL_law_186 : decode cL_law 186 = .ok (.aload_n 3, 1) := by decide +kernel
theorem dL_law_187 : decode cL_law 187 = .ok (.invokestatic 57, 3) := by decide +kernel
theorem dL_law_190 : decode cL_law 190 = .ok (.istore 5, 2) := by decide +kernel
theorem dL_law_192 : decode cL_law 192 = .ok (.aload_n 2, 1) := by decide +kernel
theorem dL_law_193 : decode cL_law 193 = .ok (.aload_n 0, 1) := by decide +kernel
theorem dL_law_194 : decode cL_law 194 = .ok (.iload 4, 2) := by decide +kernel
theorem dL_law_196 : decode cL_law 196 = .ok (.iconst 1, 1) := by decide +kernel
theorem dL_law_197 : decode cL_law 197 = .ok (.iadd, 1) := by decide +kernel
theorem dL_law_198 : decode cL_law 198 = .ok (.iaload, 1) := by decide +kernel
theorem dL_law_199 : decode cL_law 199 = .ok (.invokevirtual 60, 3) := by decide +kernel
theorem dL_law_202 : decode cL_law 202 = .ok (.lstore 6, 2) := by decide +kernel
theorem dL_law_204 : decode cL_law 204 = .ok (.aload_n 2, 1) := by decide +kernel
theorem dL_law_205 : decode cL_law 205 = .ok (.invokevirtual 53, 3) := by decide +kernel
theorem dL_law_208 : decode cL_law 208 = .ok (.iload 5, 2) := by decide +kernel
theorem dL_law_210 : decode cL_law 210 = .ok (.if_icmp .eq 5, 3) := by decide +kernel
theorem dL_law_213 : decode cL_law 213 = .ok (.iconst 0, 1) := by decide +kernel
theorem dL_law_214 : decode cL_law 214 = .ok (.ireturn, 1) := by decide +kernel
theorem dL_law_215 : decode cL_law 215 = .ok (.iload 5, 2) := by decide +kernel
theorem dL_law_217 : decode cL_law 217 = .ok (.ifCond .ne 14, 3) := by decide +kernel
theorem dL_law_220 : decode cL_law 220 = .ok (.aload_n 3, 1) := by decide +kernel
theorem dL_law_221 : decode cL_law 221 = .ok (.iconst 0, 1) := by decide +kernel
theorem dL_law_222 : decode cL_law 222 = .ok (.laload, 1) := by decide +kernel
theorem dL_law_223 : decode cL_law 223 = .ok (.lload 6, 2) := by decide +kernel
theorem dL_law_225 : decode cL_law 225 = .ok (.lcmp, 1) := by decide +kernel
theorem dL_law_226 : decode cL_law 226 = .ok (.ifCond .eq 5, 3) := by decide +kernel
theorem dL_law_229 : decode cL_law 229 = .ok (.iconst 0, 1) := by decide +kernel
theorem dL_law_230 : decode cL_law 230 = .ok (.ireturn, 1) := by decide +kernel
theorem dL_law_231 : decode cL_law 231 = .ok (.goto 375, 3) := by decide +kernel
theorem dL_law_234 : decode cL_law 234 = .ok (.aload_n 1, 1) := by decide +kernel
theorem dL_law_235 : decode cL_law 235 = .ok (.aload_n 0, 1) := by decide +kernel
theorem dL_law_236 : decode cL_law 236 = .ok (.iload 4, 2) := by decide +kernel
theorem dL_law_238 : decode cL_law 238 = .ok (.iconst 1, 1) := by decide +kernel
theorem dL_law_239 : decode cL_law 239 = .ok (.iadd, 1) := by decide +kernel
theorem dL_law_240 : decode cL_law 240 = .ok (.iaload, 1) := by decide +kernel
theorem dL_law_241 : decode cL_law 241 = .ok (.aload_n 0, 1) := by decide +kernel
theorem dL_law_242 : decode cL_law 242 = .ok (.iload 4, 2) := by decide +kernel
theorem dL_law_244 : decode cL_law 244 = .ok (.iconst 2, 1) := by decide +kernel
theorem dL_law_245 : decode cL_law 245 = .ok (.iadd, 1) := by decide +kernel
theorem dL_law_246 : decode cL_law 246 = .ok (.iaload, 1) := by decide +kernel
theorem dL_law_247 : decode cL_law 247 = .ok (.aload_n 0, 1) := by decide +kernel
theorem dL_law_248 : decode cL_law 248 = .ok (.iload 4, 2) := by decide +kernel
theorem dL_law_250 : decode cL_law 250 = .ok (.iconst 3, 1) := by decide +kernel
theorem dL_law_251 : decode cL_law 251 = .ok (.iadd, 1) := by decide +kernel
theorem dL_law_252 : decode cL_law 252 = .ok (.iaload, 1) := by decide +kernel
theorem dL_law_253 : decode cL_law 253 = .ok (.aload_n 0, 1) := by decide +kernel
theorem dL_law_254 : decode cL_law 254 = .ok (.iload 4, 2) := by decide +kernel
theorem dL_law_256 : decode cL_law 256 = .ok (.iconst 4, 1) := by decide +kernel
theorem dL_law_257 : decode cL_law 257 = .ok (.iadd, 1) := by decide +kernel
theorem dL_law_258 : decode cL_law 258 = .ok (.iaload, 1) := by decide +kernel
theorem dL_law_259 : decode cL_law 259 = .ok (.aload_n 3, 1) := by decide +kernel
theorem dL_law_260 : decode cL_law 260 = .ok (.invokestatic 61, 3) := by decide +kernel
theorem dL_law_263 : decode cL_law 263 = .ok (.istore 5, 2) := by decide +kernel
theorem dL_law_265 : decode cL_law 265 = .ok (.aload_n 2, 1) := by decide +kernel
theorem dL_law_266 : decode cL_law 266 = .ok (.aload_n 0, 1) := by decide +kernel
theorem dL_law_267 : decode cL_law 267 = .ok (.iload 4, 2) := by decide +kernel
theorem dL_law_269 : decode cL_law 269 = .ok (.iconst 1, 1) := by decide +kernel
theorem dL_law_270 : decode cL_law 270 = .ok (.iadd, 1) := by decide +kernel
theorem dL_law_271 : decode cL_law 271 = .ok (.iaload, 1) := by decide +kernel
theorem dL_law_272 : decode cL_law 272 = .ok (.aload_n 0, 1) := by decide +kernel
theorem dL_law_273 : decode cL_law 273 = .ok (.iload 4, 2) := by decide +kernel
theorem dL_law_275 : decode cL_law 275 = .ok (.iconst 2, 1) := by decide +kernel
theorem dL_law_276 : decode cL_law 276 = .ok (.iadd, 1) := by decide +kernel
theorem dL_law_277 : decode cL_law 277 = .ok (.iaload, 1) := by decide +kernel
theorem dL_law_278 : decode cL_law 278 = .ok (.aload_n 0, 1) := by decide +kernel
theorem dL_law_279 : decode cL_law 279 = .ok (.iload 4, 2) := by decide +kernel
theorem dL_law_281 : decode cL_law 281 = .ok (.iconst 3, 1) := by decide +kernel
theorem dL_law_282 : decode cL_law 282 = .ok (.iadd, 1) := by decide +kernel
theorem dL_law_283 : decode cL_law 283 = .ok (.iaload, 1) := by decide +kernel
theorem dL_law_284 : decode cL_law 284 = .ok (.aload_n 0, 1) := by decide +kernel
theorem dL_law_285 : decode cL_law 285 = .ok (.iload 4, 2) := by decide +kernel
theorem dL_law_287 : decode cL_law 287 = .ok (.iconst 4, 1) := by decide +kernel
theorem dL_law_288 : decode cL_law 288 = .ok (.iadd, 1) := by decide +kernel
theorem dL_law_289 : decode cL_law 289 = .ok (.iaload, 1) := by decide +kernel
theorem dL_law_290 : decode cL_law 290 = .ok (.invokevirtual 64, 3) := by decide +kernel
theorem dL_law_293 : decode cL_law 293 = .ok (.lstore 6, 2) := by decide +kernel
theorem dL_law_295 : decode cL_law 295 = .ok (.aload_n 2, 1) := by decide +kernel
theorem dL_law_296 : decode cL_law 296 = .ok (.invokevirtual 53, 3) := by decide +kernel
theorem dL_law_299 : decode cL_law 299 = .ok (.iload 5, 2) := by decide +kernel
theorem dL_law_301 : decode cL_law 301 = .ok (.if_icmp .eq 5, 3) := by decide +kernel
theorem dL_law_304 : decode cL_law 304 = .ok (.iconst 0, 1) := by decide +kernel
theorem dL_law_305 : decode cL_law 305 = .ok (.ireturn, 1) := by decide +kernel
theorem dL_law_306 : decode cL_law 306 = .ok (.iload 5, 2) := by decide +kernel
theorem dL_law_308 : decode cL_law 308 = .ok (.ifCond .ne 14, 3) := by decide +kernel
theorem dL_law_311 : decode cL_law 311 = .ok (.aload_n 3, 1) := by decide +kernel
theorem dL_law_312 : decode cL_law 312 = .ok (.iconst 0, 1) := by decide +kernel
theorem dL_law_313 : decode cL_law 313 = .ok (.laload, 1) := by decide +kernel
theorem dL_law_314 : decode cL_law 314 = .ok (.lload 6, 2) := by decide +kernel
theorem dL_law_316 : decode cL_law 316 = .ok (.lcmp, 1) := by decide +kernel
theorem dL_law_317 : decode cL_law 317 = .ok (.ifCond .eq 5, 3) := by decide +kernel
theorem dL_law_320 : decode cL_law 320 = .ok (.iconst 0, 1) := by decide +kernel
theorem dL_law_321 : decode cL_law 321 = .ok (.ireturn, 1) := by decide +kernel
theorem dL_law_322 : decode cL_law 322 = .ok (.goto 284, 3) := by decide +kernel
theorem dL_law_325 : decode cL_law 325 = .ok (.aload_n 1, 1) := by decide +kernel
theorem dL_law_326 : decode cL_law 326 = .ok (.aload_n 0, 1) := by decide +kernel
theorem dL_law_327 : decode cL_law 327 = .ok (.iload 4, 2) := by decide +kernel
theorem dL_law_329 : decode cL_law 329 = .ok (.iconst 1, 1) := by decide +kernel
theorem dL_law_330 : decode cL_law 330 = .ok (.iadd, 1) := by decide +kernel
theorem dL_law_331 : decode cL_law 331 = .ok (.iaload, 1) := by decide +kernel
theorem dL_law_332 : decode cL_law 332 = .ok (.aload_n 0, 1) := by decide +kernel
theorem dL_law_333 : decode cL_law 333 = .ok (.iload 4, 2) := by decide +kernel
theorem dL_law_335 : decode cL_law 335 = .ok (.iconst 2, 1) := by decide +kernel
theorem dL_law_336 : decode cL_law 336 = .ok (.iadd, 1) := by decide +kernel
theorem dL_law_337 : decode cL_law 337 = .ok (.iaload, 1) := by decide +kernel
theorem dL_law_338 : decode cL_law 338 = .ok (.aload_n 0, 1) := by decide +kernel
theorem dL_law_339 : decode cL_law 339 = .ok (.iload 4, 2) := by decide +kernel
theorem dL_law_341 : decode cL_law 341 = .ok (.iconst 3, 1) := by decide +kernel
theorem dL_law_342 : decode cL_law 342 = .ok (.iadd, 1) := by decide +kernel
theorem dL_law_343 : decode cL_law 343 = .ok (.iaload, 1) := by decide +kernel
theorem dL_law_344 : decode cL_law 344 = .ok (.aload_n 3, 1) := by decide +kernel
theorem dL_law_345 : decode cL_law 345 = .ok (.invokestatic 65, 3) := by decide +kernel
theorem dL_law_348 : decode cL_law 348 = .ok (.istore 5, 2) := by decide +kernel
theorem dL_law_350 : decode cL_law 350 = .ok (.aload_n 2, 1) := by decide +kernel
theorem dL_law_351 : decode cL_law 351 = .ok (.aload_n 0, 1) := by decide +kernel
theorem dL_law_352 : decode cL_law 352 = .ok (.iload 4, 2) := by decide +kernel
theorem dL_law_354 : decode cL_law 354 = .ok (.iconst 1, 1) := by decide +kernel
theorem dL_law_355 : decode cL_law 355 = .ok (.iadd, 1) := by decide +kernel
theorem dL_law_356 : decode cL_law 356 = .ok (.iaload, 1) := by decide +kernel
theorem dL_law_357 : decode cL_law 357 = .ok (.aload_n 0, 1) := by decide +kernel
theorem dL_law_358 : decode cL_law 358 = .ok (.iload 4, 2) := by decide +kernel
theorem dL_law_360 : decode cL_law 360 = .ok (.iconst 2, 1) := by decide +kernel
theorem dL_law_361 : decode cL_law 361 = .ok (.iadd, 1) := by decide +kernel
theorem dL_law_362 : decode cL_law 362 = .ok (.iaload, 1) := by decide +kernel
theorem dL_law_363 : decode cL_law 363 = .ok (.aload_n 0, 1) := by decide +kernel
theorem dL_law_364 : decode cL_law 364 = .ok (.iload 4, 2) := by decide +kernel
theorem dL_law_366 : decode cL_law 366 = .ok (.iconst 3, 1) := by decide +kernel
theorem dL_law_367 : decode cL_law 367 = .ok (.iadd, 1) := by decide +kernel
theorem dL_law_368 : decode cL_law 368 = .ok (.iaload, 1) := by decide +kernel
theorem dL_law_369 : decode cL_law 369 = .ok (.invokevirtual 68, 3) := by decide +kernel
theorem dL_law_372 : decode cL_law 372 = .ok (.lstore 6, 2) := by decide +kernel
theorem dL_law_374 : decode cL_law 374 = .ok (.aload_n 2, 1) := by decide +kernel
theorem dL_law_375 : decode cL_law 375 = .ok (.invokevirtual 53, 3) := by decide +kernel
theorem dL_law_378 : decode cL_law 378 = .ok (.iload 5, 2) := by decide +kernel
theorem dL_law_380 : decode cL_law 380 = .ok (.if_icmp .eq 5, 3) := by decide +kernel
theorem dL_law_383 : decode cL_law 383 = .ok (.iconst 0, 1) := by decide +kernel
theorem dL_law_384 : decode cL_law 384 = .ok (.ireturn, 1) := by decide +kernel
theorem dL_law_385 : decode cL_law 385 = .ok (.iload 5, 2) := by decide +kernel
theorem dL_law_387 : decode cL_law 387 = .ok (.ifCond .ne 14, 3) := by decide +kernel
theorem dL_law_390 : decode cL_law 390 = .ok (.aload_n 3, 1) := by decide +kernel
theorem dL_law_391 : decode cL_law 391 = .ok (.iconst 0, 1) := by decide +kernel
theorem dL_law_392 : decode cL_law 392 = .ok (.laload, 1) := by decide +kernel
theorem dL_law_393 : decode cL_law 393 = .ok (.lload 6, 2) := by decide +kernel
theorem dL_law_395 : decode cL_law 395 = .ok (.lcmp, 1) := by decide +kernel
theorem dL_law_396 : decode cL_law 396 = .ok (.ifCond .eq 5, 3) := by decide +kernel
theorem dL_law_399 : decode cL_law 399 = .ok (.iconst 0, 1) := by decide +kernel
theorem dL_law_400 : decode cL_law 400 = .ok (.ireturn, 1) := by decide +kernel
theorem dL_law_401 : decode cL_law 401 = .ok (.goto 205, 3) := by decide +kernel
theorem dL_law_404 : decode cL_law 404 = .ok (.aload_n 1, 1) := by decide +kernel
theorem dL_law_405 : decode cL_law 405 = .ok (.aload_n 0, 1) := by decide +kernel
theorem dL_law_406 : decode cL_law 406 = .ok (.iload 4, 2) := by decide +kernel
theorem dL_law_408 : decode cL_law 408 = .ok (.iconst 1, 1) := by decide +kernel
theorem dL_law_409 : decode cL_law 409 = .ok (.iadd, 1) := by decide +kernel
theorem dL_law_410 : decode cL_law 410 = .ok (.iaload, 1) := by decide +kernel
theorem dL_law_411 : decode cL_law 411 = .ok (.aload_n 0, 1) := by decide +kernel
theorem dL_law_412 : decode cL_law 412 = .ok (.iload 4, 2) := by decide +kernel
theorem dL_law_414 : decode cL_law 414 = .ok (.iconst 2, 1) := by decide +kernel
theorem dL_law_415 : decode cL_law 415 = .ok (.iadd, 1) := by decide +kernel
theorem dL_law_416 : decode cL_law 416 = .ok (.iaload, 1) := by decide +kernel
theorem dL_law_417 : decode cL_law 417 = .ok (.aload_n 0, 1) := by decide +kernel
theorem dL_law_418 : decode cL_law 418 = .ok (.iload 4, 2) := by decide +kernel
theorem dL_law_420 : decode cL_law 420 = .ok (.iconst 3, 1) := by decide +kernel
theorem dL_law_421 : decode cL_law 421 = .ok (.iadd, 1) := by decide +kernel
theorem dL_law_422 : decode cL_law 422 = .ok (.iaload, 1) := by decide +kernel
theorem dL_law_423 : decode cL_law 423 = .ok (.aload_n 3, 1) := by decide +kernel
theorem dL_law_424 : decode cL_law 424 = .ok (.invokestatic 69, 3) := by decide +kernel
theorem dL_law_427 : decode cL_law 427 = .ok (.istore 5, 2) := by decide +kernel
theorem dL_law_429 : decode cL_law 429 = .ok (.aload_n 2, 1) := by decide +kernel
theorem dL_law_430 : decode cL_law 430 = .ok (.aload_n 0, 1) := by decide +kernel
theorem dL_law_431 : decode cL_law 431 = .ok (.iload 4, 2) := by decide +kernel
theorem dL_law_433 : decode cL_law 433 = .ok (.iconst 1, 1) := by decide +kernel
theorem dL_law_434 : decode cL_law 434 = .ok (.iadd, 1) := by decide +kernel
theorem dL_law_435 : decode cL_law 435 = .ok (.iaload, 1) := by decide +kernel
theorem dL_law_436 : decode cL_law 436 = .ok (.aload_n 0, 1) := by decide +kernel
theorem dL_law_437 : decode cL_law 437 = .ok (.iload 4, 2) := by decide +kernel
theorem dL_law_439 : decode cL_law 439 = .ok (.iconst 2, 1) := by decide +kernel
theorem dL_law_440 : decode cL_law 440 = .ok (.iadd, 1) := by decide +kernel
theorem dL_law_441 : decode cL_law 441 = .ok (.iaload, 1) := by decide +kernel
theorem dL_law_442 : decode cL_law 442 = .ok (.aload_n 0, 1) := by decide +kernel
theorem dL_law_443 : decode cL_law 443 = .ok (.iload 4, 2) := by decide +kernel
theorem dL_law_445 : decode cL_law 445 = .ok (.iconst 3, 1) := by decide +kernel
theorem dL_law_446 : decode cL_law 446 = .ok (.iadd, 1) := by decide +kernel
theorem dL_law_447 : decode cL_law 447 = .ok (.iaload, 1) := by decide +kernel
theorem dL_law_448 : decode cL_law 448 = .ok (.invokevirtual 71, 3) := by decide +kernel
theorem dL_law_451 : decode cL_law 451 = .ok (.lstore 6, 2) := by decide +kernel
theorem dL_law_453 : decode cL_law 453 = .ok (.aload_n 2, 1) := by decide +kernel
theorem dL_law_454 : decode cL_law 454 = .ok (.invokevirtual 53, 3) := by decide +kernel
theorem dL_law_457 : decode cL_law 457 = .ok (.iload 5, 2) := by decide +kernel
theorem dL_law_459 : decode cL_law 459 = .ok (.if_icmp .eq 5, 3) := by decide +kernel
theorem dL_law_462 : decode cL_law 462 = .ok (.iconst 0, 1) := by decide +kernel
theorem dL_law_463 : decode cL_law 463 = .ok (.ireturn, 1) := by decide +kernel
theorem dL_law_464 : decode cL_law 464 = .ok (.iload 5, 2) := by decide +kernel
theorem dL_law_466 : decode cL_law 466 = .ok (.ifCond .ne 14, 3) := by decide +kernel
theorem dL_law_469 : decode cL_law 469 = .ok (.aload_n 3, 1) := by decide +kernel
theorem dL_law_470 : decode cL_law 470 = .ok (.iconst 0, 1) := by decide +kernel
theorem dL_law_471 : decode cL_law 471 = .ok (.laload, 1) := by decide +kernel
theorem dL_law_472 : decode cL_law 472 = .ok (.lload 6, 2) := by decide +kernel
theorem dL_law_474 : decode cL_law 474 = .ok (.lcmp, 1) := by decide +kernel
theorem dL_law_475 : decode cL_law 475 = .ok (.ifCond .eq 5, 3) := by decide +kernel
theorem dL_law_478 : decode cL_law 478 = .ok (.iconst 0, 1) := by decide +kernel
theorem dL_law_479 : decode cL_law 479 = .ok (.ireturn, 1) := by decide +kernel
theorem dL_law_480 : decode cL_law 480 = .ok (.goto 126, 3) := by decide +kernel
theorem dL_law_483 : decode cL_law 483 = .ok (.aload_n 1, 1) := by decide +kernel
theorem dL_law_484 : decode cL_law 484 = .ok (.aload_n 0, 1) := by decide +kernel
theorem dL_law_485 : decode cL_law 485 = .ok (.iload 4, 2) := by decide +kernel
theorem dL_law_487 : decode cL_law 487 = .ok (.iconst 1, 1) := by decide +kernel
theorem dL_law_488 : decode cL_law 488 = .ok (.iadd, 1) := by decide +kernel
theorem dL_law_489 : decode cL_law 489 = .ok (.iaload, 1) := by decide +kernel
theorem dL_law_490 : decode cL_law 490 = .ok (.aload_n 0, 1) := by decide +kernel
theorem dL_law_491 : decode cL_law 491 = .ok (.iload 4, 2) := by decide +kernel
theorem dL_law_493 : decode cL_law 493 = .ok (.iconst 2, 1) := by decide +kernel
theorem dL_law_494 : decode cL_law 494 = .ok (.iadd, 1) := by decide +kernel
theorem dL_law_495 : decode cL_law 495 = .ok (.iaload, 1) := by decide +kernel
theorem dL_law_496 : decode cL_law 496 = .ok (.aload_n 3, 1) := by decide +kernel
theorem dL_law_497 : decode cL_law 497 = .ok (.invokestatic 72, 3) := by decide +kernel
theorem dL_law_500 : decode cL_law 500 = .ok (.istore 5, 2) := by decide +kernel
theorem dL_law_502 : decode cL_law 502 = .ok (.aload_n 2, 1) := by decide +kernel
theorem dL_law_503 : decode cL_law 503 = .ok (.aload_n 0, 1) := by decide +kernel
theorem dL_law_504 : decode cL_law 504 = .ok (.iload 4, 2) := by decide +kernel
theorem dL_law_506 : decode cL_law 506 = .ok (.iconst 1, 1) := by decide +kernel
theorem dL_law_507 : decode cL_law 507 = .ok (.iadd, 1) := by decide +kernel
theorem dL_law_508 : decode cL_law 508 = .ok (.iaload, 1) := by decide +kernel
theorem dL_law_509 : decode cL_law 509 = .ok (.aload_n 0, 1) := by decide +kernel
theorem dL_law_510 : decode cL_law 510 = .ok (.iload 4, 2) := by decide +kernel
theorem dL_law_512 : decode cL_law 512 = .ok (.iconst 2, 1) := by decide +kernel
theorem dL_law_513 : decode cL_law 513 = .ok (.iadd, 1) := by decide +kernel
theorem dL_law_514 : decode cL_law 514 = .ok (.iaload, 1) := by decide +kernel
theorem dL_law_515 : decode cL_law 515 = .ok (.invokevirtual 75, 3) := by decide +kernel
theorem dL_law_518 : decode cL_law 518 = .ok (.istore 6, 2) := by decide +kernel
theorem dL_law_520 : decode cL_law 520 = .ok (.aload_n 2, 1) := by decide +kernel
theorem dL_law_521 : decode cL_law 521 = .ok (.invokevirtual 53, 3) := by decide +kernel
theorem dL_law_524 : decode cL_law 524 = .ok (.iload 5, 2) := by decide +kernel
theorem dL_law_526 : decode cL_law 526 = .ok (.if_icmp .eq 5, 3) := by decide +kernel
theorem dL_law_529 : decode cL_law 529 = .ok (.iconst 0, 1) := by decide +kernel
theorem dL_law_530 : decode cL_law 530 = .ok (.ireturn, 1) := by decide +kernel
theorem dL_law_531 : decode cL_law 531 = .ok (.iload 5, 2) := by decide +kernel
theorem dL_law_533 : decode cL_law 533 = .ok (.ifCond .ne 15, 3) := by decide +kernel
theorem dL_law_536 : decode cL_law 536 = .ok (.aload_n 3, 1) := by decide +kernel
theorem dL_law_537 : decode cL_law 537 = .ok (.iconst 0, 1) := by decide +kernel
theorem dL_law_538 : decode cL_law 538 = .ok (.laload, 1) := by decide +kernel
theorem dL_law_539 : decode cL_law 539 = .ok (.iload 6, 2) := by decide +kernel
theorem dL_law_541 : decode cL_law 541 = .ok (.i2l, 1) := by decide +kernel
theorem dL_law_542 : decode cL_law 542 = .ok (.lcmp, 1) := by decide +kernel
theorem dL_law_543 : decode cL_law 543 = .ok (.ifCond .eq 5, 3) := by decide +kernel
theorem dL_law_546 : decode cL_law 546 = .ok (.iconst 0, 1) := by decide +kernel
theorem dL_law_547 : decode cL_law 547 = .ok (.ireturn, 1) := by decide +kernel
theorem dL_law_548 : decode cL_law 548 = .ok (.goto 58, 3) := by decide +kernel
theorem dL_law_551 : decode cL_law 551 = .ok (.aload_n 1, 1) := by decide +kernel
theorem dL_law_552 : decode cL_law 552 = .ok (.aload_n 0, 1) := by decide +kernel
theorem dL_law_553 : decode cL_law 553 = .ok (.iload 4, 2) := by decide +kernel
theorem dL_law_555 : decode cL_law 555 = .ok (.iconst 1, 1) := by decide +kernel
theorem dL_law_556 : decode cL_law 556 = .ok (.iadd, 1) := by decide +kernel
theorem dL_law_557 : decode cL_law 557 = .ok (.iaload, 1) := by decide +kernel
theorem dL_law_558 : decode cL_law 558 = .ok (.aload_n 3, 1) := by decide +kernel
theorem dL_law_559 : decode cL_law 559 = .ok (.invokestatic 76, 3) := by decide +kernel
theorem dL_law_562 : decode cL_law 562 = .ok (.istore 5, 2) := by decide +kernel
theorem dL_law_564 : decode cL_law 564 = .ok (.aload_n 2, 1) := by decide +kernel
theorem dL_law_565 : decode cL_law 565 = .ok (.aload_n 0, 1) := by decide +kernel
theorem dL_law_566 : decode cL_law 566 = .ok (.iload 4, 2) := by decide +kernel
theorem dL_law_568 : decode cL_law 568 = .ok (.iconst 1, 1) := by decide +kernel
theorem dL_law_569 : decode cL_law 569 = .ok (.iadd, 1) := by decide +kernel
theorem dL_law_570 : decode cL_law 570 = .ok (.iaload, 1) := by decide +kernel
theorem dL_law_571 : decode cL_law 571 = .ok (.invokevirtual 78, 3) := by decide +kernel
theorem dL_law_574 : decode cL_law 574 = .ok (.lstore 6, 2) := by decide +kernel
theorem dL_law_576 : decode cL_law 576 = .ok (.aload_n 2, 1) := by decide +kernel
theorem dL_law_577 : decode cL_law 577 = .ok (.invokevirtual 53, 3) := by decide +kernel
theorem dL_law_580 : decode cL_law 580 = .ok (.iload 5, 2) := by decide +kernel
theorem dL_law_582 : decode cL_law 582 = .ok (.if_icmp .eq 5, 3) := by decide +kernel
theorem dL_law_585 : decode cL_law 585 = .ok (.iconst 0, 1) := by decide +kernel
theorem dL_law_586 : decode cL_law 586 = .ok (.ireturn, 1) := by decide +kernel
theorem dL_law_587 : decode cL_law 587 = .ok (.iload 5, 2) := by decide +kernel
theorem dL_law_589 : decode cL_law 589 = .ok (.ifCond .ne 14, 3) := by decide +kernel
theorem dL_law_592 : decode cL_law 592 = .ok (.aload_n 3, 1) := by decide +kernel
theorem dL_law_593 : decode cL_law 593 = .ok (.iconst 0, 1) := by decide +kernel
theorem dL_law_594 : decode cL_law 594 = .ok (.laload, 1) := by decide +kernel
theorem dL_law_595 : decode cL_law 595 = .ok (.lload 6, 2) := by decide +kernel
theorem dL_law_597 : decode cL_law 597 = .ok (.lcmp, 1) := by decide +kernel
theorem dL_law_598 : decode cL_law 598 = .ok (.ifCond .eq 5, 3) := by decide +kernel
theorem dL_law_601 : decode cL_law 601 = .ok (.iconst 0, 1) := by decide +kernel
theorem dL_law_602 : decode cL_law 602 = .ok (.ireturn, 1) := by decide +kernel
theorem dL_law_603 : decode cL_law 603 = .ok (.goto 3, 3) := by decide +kernel
theorem dL_law_606 : decode cL_law 606 = .ok (.iinc 4 5, 3) := by decide +kernel
theorem dL_law_609 : decode cL_law 609 = .ok (.goto (-586), 3) := by decide +kernel
theorem dL_law_612 : decode cL_law 612 = .ok (.iconst 1, 1) := by decide +kernel
theorem dL_law_613 : decode cL_law 613 = .ok (.ireturn, 1) := by decide +kernel
abbrev vwCl : List vw_C := [(RX0, TX0, 1), (RX1, TX1, 3)]
abbrev cX1_thrown : ByteArray := prog_3_method_2_code
def yX1_thrown : MethodName := ⟨RX1, "thrown", "()I"⟩
theorem dX1_thrown_0 : decode cX1_thrown 0 = .ok (.aload_n 0, 1) := by decide +kernel
theorem dX1_thrown_1 : decode cX1_thrown 1 = .ok (.getfield 17, 3) := by decide +kernel
theorem dX1_thrown_4 : decode cX1_thrown 4 = .ok (.ireturn, 1) := by decide +kernel
abbrev cX1_fail : ByteArray := prog_3_method_3_code
def yX1_fail : MethodName := ⟨RX1, "fail", "(I)I"⟩
theorem dX1_fail_0 : decode cX1_fail 0 = .ok (.aload_n 0, 1) := by decide +kernel
theorem dX1_fail_1 : decode cX1_fail 1 = .ok (.iload_n 1, 1) := by decide +kernel
theorem dX1_fail_2 : decode cX1_fail 2 = .ok (.putfield 17, 3) := by decide +kernel
theorem dX1_fail_5 : decode cX1_fail 5 = .ok (.iconst 0, 1) := by decide +kernel
theorem dX1_fail_6 : decode cX1_fail 6 = .ok (.ireturn, 1) := by decide +kernel
abbrev cX1_out : ByteArray := prog_3_method_4_code
def yX1_out : MethodName := ⟨RX1, "out", "(I)Z"⟩
theorem dX1_out_0 : decode cX1_out 0 = .ok (.iload_n 1, 1) := by decide +kernel
theorem dX1_out_1 : decode cX1_out 1 = .ok (.ifCond .lt 9, 3) := by decide +kernel
theorem dX1_out_4 : decode cX1_out 4 = .ok (.iload_n 1, 1) := by decide +kernel
theorem dX1_out_5 : decode cX1_out 5 = .ok (.bipush 7, 2) := by decide +kernel
theorem dX1_out_7 : decode cX1_out 7 = .ok (.if_icmp .le 7, 3) := by decide +kernel
theorem dX1_out_10 : decode cX1_out 10 = .ok (.iconst 1, 1) := by decide +kernel
theorem dX1_out_11 : decode cX1_out 11 = .ok (.goto 4, 3) := by decide +kernel
theorem dX1_out_14 : decode cX1_out 14 = .ok (.iconst 0, 1) := by decide +kernel
theorem dX1_out_15 : decode cX1_out 15 = .ok (.ireturn, 1) := by decide +kernel
abbrev cX1_size : ByteArray := prog_3_method_5_code
def yX1_size : MethodName := ⟨RX1, "size", "(J)J"⟩
theorem dX1_size_0 : decode cX1_size 0 = .ok (.lload_n 0, 1) := by decide +kernel
theorem dX1_size_1 : decode cX1_size 1 = .ok (.lconst 0, 1) := by decide +kernel
theorem dX1_size_2 : decode cX1_size 2 = .ok (.lcmp, 1) := by decide +kernel
theorem dX1_size_3 : decode cX1_size 3 = .ok (.ifCond .ge 8, 3) := by decide +kernel
theorem dX1_size_6 : decode cX1_size 6 = .ok (.lload_n 0, 1) := by decide +kernel
theorem dX1_size_7 : decode cX1_size 7 = .ok (.lneg, 1) := by decide +kernel
theorem dX1_size_8 : decode cX1_size 8 = .ok (.goto 4, 3) := by decide +kernel
theorem dX1_size_11 : decode cX1_size 11 = .ok (.lload_n 0, 1) := by decide +kernel
theorem dX1_size_12 : decode cX1_size 12 = .ok (.lreturn, 1) := by decide +kernel
abbrev cX1_set : ByteArray := prog_3_method_6_code
def yX1_set : MethodName := ⟨RX1, "set", "(IJ)J"⟩
theorem dX1_set_0 : decode cX1_set 0 = .ok (.aload_n 0, 1) := by decide +kernel
theorem dX1_set_1 : decode cX1_set 1 = .ok (.iconst 0, 1) := by decide +kernel
theorem dX1_set_2 : decode cX1_set 2 = .ok (.putfield 17, 3) := by decide +kernel
theorem dX1_set_5 : decode cX1_set 5 = .ok (.aload_n 0, 1) := by decide +kernel
theorem dX1_set_6 : decode cX1_set 6 = .ok (.iload_n 1, 1) := by decide +kernel
theorem dX1_set_7 : decode cX1_set 7 = .ok (.invokevirtual 21, 3) := by decide +kernel
theorem dX1_set_10 : decode cX1_set 10 = .ok (.ifCond .ne 19, 3) := by decide +kernel
theorem dX1_set_13 : decode cX1_set 13 = .ok (.lload_n 2, 1) := by decide +kernel
theorem dX1_set_14 : decode cX1_set 14 = .ok (.ldc2_w 25, 3) := by decide +kernel
theorem dX1_set_17 : decode cX1_set 17 = .ok (.lcmp, 1) := by decide +kernel
theorem dX1_set_18 : decode cX1_set 18 = .ok (.ifCond .lt 11, 3) := by decide +kernel
theorem dX1_set_21 : decode cX1_set 21 = .ok (.lload_n 2, 1) := by decide +kernel
theorem dX1_set_22 : decode cX1_set 22 = .ok (.ldc2_w 27, 3) := by decide +kernel
theorem dX1_set_25 : decode cX1_set 25 = .ok (.lcmp, 1) := by decide +kernel
theorem dX1_set_26 : decode cX1_set 26 = .ok (.ifCond .le 10, 3) := by decide +kernel
theorem dX1_set_29 : decode cX1_set 29 = .ok (.aload_n 0, 1) := by decide +kernel
theorem dX1_set_30 : decode cX1_set 30 = .ok (.iconst 1, 1) := by decide +kernel
theorem dX1_set_31 : decode cX1_set 31 = .ok (.invokevirtual 29, 3) := by decide +kernel
theorem dX1_set_34 : decode cX1_set 34 = .ok (.i2l, 1) := by decide +kernel
theorem dX1_set_35 : decode cX1_set 35 = .ok (.lreturn, 1) := by decide +kernel
theorem dX1_set_36 : decode cX1_set 36 = .ok (.aload_n 0, 1) := by decide +kernel
theorem dX1_set_37 : decode cX1_set 37 = .ok (.getfield 7, 3) := by decide +kernel
theorem dX1_set_40 : decode cX1_set 40 = .ok (.iload_n 1, 1) := by decide +kernel
theorem dX1_set_41 : decode cX1_set 41 = .ok (.laload, 1) := by decide +kernel
theorem dX1_set_42 : decode cX1_set 42 = .ok (.lstore 4, 2) := by decide +kernel
theorem dX1_set_44 : decode cX1_set 44 = .ok (.aload_n 0, 1) := by decide +kernel
theorem dX1_set_45 : decode cX1_set 45 = .ok (.getfield 7, 3) := by decide +kernel
theorem dX1_set_48 : decode cX1_set 48 = .ok (.iload_n 1, 1) := by decide +kernel
theorem dX1_set_49 : decode cX1_set 49 = .ok (.lload_n 2, 1) := by decide +kernel
theorem dX1_set_50 : decode cX1_set 50 = .ok (.lastore, 1) := by decide +kernel
theorem dX1_set_51 : decode cX1_set 51 = .ok (.lload 4, 2) := by decide +kernel
theorem dX1_set_53 : decode cX1_set 53 = .ok (.lreturn, 1) := by decide +kernel
abbrev cX1_get : ByteArray := prog_3_method_7_code
def yX1_get : MethodName := ⟨RX1, "get", "(I)J"⟩
theorem dX1_get_0 : decode cX1_get 0 = .ok (.aload_n 0, 1) := by decide +kernel
theorem dX1_get_1 : decode cX1_get 1 = .ok (.iconst 0, 1) := by decide +kernel
theorem dX1_get_2 : decode cX1_get 2 = .ok (.putfield 17, 3) := by decide +kernel
theorem dX1_get_5 : decode cX1_get 5 = .ok (.aload_n 0, 1) := by decide +kernel
theorem dX1_get_6 : decode cX1_get 6 = .ok (.iload_n 1, 1) := by decide +kernel
theorem dX1_get_7 : decode cX1_get 7 = .ok (.invokevirtual 21, 3) := by decide +kernel
theorem dX1_get_10 : decode cX1_get 10 = .ok (.ifCond .eq 12, 3) := by decide +kernel
theorem dX1_get_13 : decode cX1_get 13 = .ok (.aload_n 0, 1) := by decide +kernel
theorem dX1_get_14 : decode cX1_get 14 = .ok (.iconst 1, 1) := by decide +kernel
theorem dX1_get_15 : decode cX1_get 15 = .ok (.invokevirtual 29, 3) := by decide +kernel
theorem dX1_get_18 : decode cX1_get 18 = .ok (.i2l, 1) := by decide +kernel
theorem dX1_get_19 : decode cX1_get 19 = .ok (.goto 9, 3) := by decide +kernel
theorem dX1_get_22 : decode cX1_get 22 = .ok (.aload_n 0, 1) := by decide +kernel
theorem dX1_get_23 : decode cX1_get 23 = .ok (.getfield 7, 3) := by decide +kernel
theorem dX1_get_26 : decode cX1_get 26 = .ok (.iload_n 1, 1) := by decide +kernel
theorem dX1_get_27 : decode cX1_get 27 = .ok (.laload, 1) := by decide +kernel
theorem dX1_get_28 : decode cX1_get 28 = .ok (.lreturn, 1) := by decide +kernel
abbrev cX1_put : ByteArray := prog_3_method_8_code
def yX1_put : MethodName := ⟨RX1, "put", "(IZJI)J"⟩
theorem dX1_put_0 : decode cX1_put 0 = .ok (.lload_n 3, 1) := by decide +kernel
theorem dX1_put_1 : decode cX1_put 1 = .ok (.ldc2_w 27, 3) := by decide +kernel
theorem dX1_put_4 : decode cX1_put 4 = .ok (.lcmp, 1) := by decide +kernel
theorem dX1_put_5 : decode cX1_put 5 = .ok (.ifCond .le 11, 3) := by decide +kernel
theorem dX1_put_8 : decode cX1_put 8 = .ok (.aload_n 0, 1) := by decide +kernel
theorem dX1_put_9 : decode cX1_put 9 = .ok (.iload 5, 2) := by decide +kernel
theorem dX1_put_11 : decode cX1_put 11 = .ok (.invokevirtual 29, 3) := by decide +kernel
theorem dX1_put_14 : decode cX1_put 14 = .ok (.i2l, 1) := by decide +kernel
theorem dX1_put_15 : decode cX1_put 15 = .ok (.lreturn, 1) := by decide +kernel
theorem dX1_put_16 : decode cX1_put 16 = .ok (.aload_n 0, 1) := by decide +kernel
theorem dX1_put_17 : decode cX1_put 17 = .ok (.getfield 7, 3) := by decide +kernel
theorem dX1_put_20 : decode cX1_put 20 = .ok (.iload_n 1, 1) := by decide +kernel
theorem dX1_put_21 : decode cX1_put 21 = .ok (.iload_n 2, 1) := by decide +kernel
theorem dX1_put_22 : decode cX1_put 22 = .ok (.ifCond .eq 8, 3) := by decide +kernel
theorem dX1_put_25 : decode cX1_put 25 = .ok (.lload_n 3, 1) := by decide +kernel
theorem dX1_put_26 : decode cX1_put 26 = .ok (.lneg, 1) := by decide +kernel
theorem dX1_put_27 : decode cX1_put 27 = .ok (.goto 4, 3) := by decide +kernel
theorem dX1_put_30 : decode cX1_put 30 = .ok (.lload_n 3, 1) := by decide +kernel
theorem dX1_put_31 : decode cX1_put 31 = .ok (.lastore, 1) := by decide +kernel
theorem dX1_put_32 : decode cX1_put 32 = .ok (.aload_n 0, 1) := by decide +kernel
theorem dX1_put_33 : decode cX1_put 33 = .ok (.getfield 7, 3) := by decide +kernel
theorem dX1_put_36 : decode cX1_put 36 = .ok (.iload_n 1, 1) := by decide +kernel
theorem dX1_put_37 : decode cX1_put 37 = .ok (.laload, 1) := by decide +kernel
theorem dX1_put_38 : decode cX1_put 38 = .ok (.lreturn, 1) := by decide +kernel
abbrev cX1_product : ByteArray := prog_3_method_9_code
def yX1_product : MethodName := ⟨RX1, "product", "(JJ)J"⟩
theorem dX1_product_0 : decode cX1_product 0 = .ok (.lload_n 1, 1) := by decide +kernel
theorem dX1_product_1 : decode cX1_product 1 = .ok (.ldc2_w 33, 3) := by decide +kernel
theorem dX1_product_4 : decode cX1_product 4 = .ok (.ldiv, 1) := by decide +kernel
theorem dX1_product_5 : decode cX1_product 5 = .ok (.lstore 5, 2) := by decide +kernel
theorem dX1_product_7 : decode cX1_product 7 = .ok (.lload 5, 2) := by decide +kernel
theorem dX1_product_9 : decode cX1_product 9 = .ok (.lconst 0, 1) := by decide +kernel
theorem dX1_product_10 : decode cX1_product 10 = .ok (.lcmp, 1) := by decide +kernel
theorem dX1_product_11 : decode cX1_product 11 = .ok (.ifCond .le 18, 3) := by decide +kernel
theorem dX1_product_14 : decode cX1_product 14 = .ok (.lload_n 3, 1) := by decide +kernel
theorem dX1_product_15 : decode cX1_product 15 = .ok (.ldc2_w 27, 3) := by decide +kernel
theorem dX1_product_18 : decode cX1_product 18 = .ok (.lload 5, 2) := by decide +kernel
theorem dX1_product_20 : decode cX1_product 20 = .ok (.ldiv, 1) := by decide +kernel
theorem dX1_product_21 : decode cX1_product 21 = .ok (.lcmp, 1) := by decide +kernel
theorem dX1_product_22 : decode cX1_product 22 = .ok (.ifCond .le 7, 3) := by decide +kernel
theorem dX1_product_25 : decode cX1_product 25 = .ok (.ldc2_w 35, 3) := by decide +kernel
theorem dX1_product_28 : decode cX1_product 28 = .ok (.lreturn, 1) := by decide +kernel
theorem dX1_product_29 : decode cX1_product 29 = .ok (.lload 5, 2) := by decide +kernel
theorem dX1_product_31 : decode cX1_product 31 = .ok (.lload_n 3, 1) := by decide +kernel
theorem dX1_product_32 : decode cX1_product 32 = .ok (.lmul, 1) := by decide +kernel
theorem dX1_product_33 : decode cX1_product 33 = .ok (.lload_n 1, 1) := by decide +kernel
theorem dX1_product_34 : decode cX1_product 34 = .ok (.ldc2_w 33, 3) := by decide +kernel
theorem dX1_product_37 : decode cX1_product 37 = .ok (.lrem, 1) := by decide +kernel
theorem dX1_product_38 : decode cX1_product 38 = .ok (.lload_n 3, 1) := by decide +kernel
theorem dX1_product_39 : decode cX1_product 39 = .ok (.lmul, 1) := by decide +kernel
theorem dX1_product_40 : decode cX1_product 40 = .ok (.ldc2_w 37, 3) := by decide +kernel
theorem dX1_product_43 : decode cX1_product 43 = .ok (.ladd, 1) := by decide +kernel
theorem dX1_product_44 : decode cX1_product 44 = .ok (.ldc2_w 33, 3) := by decide +kernel
theorem dX1_product_47 : decode cX1_product 47 = .ok (.ldiv, 1) := by decide +kernel
theorem dX1_product_48 : decode cX1_product 48 = .ok (.ladd, 1) := by decide +kernel
theorem dX1_product_49 : decode cX1_product 49 = .ok (.lreturn, 1) := by decide +kernel
abbrev cX1_quotient : ByteArray := prog_3_method_10_code
def yX1_quotient : MethodName := ⟨RX1, "quotient", "(JJ)J"⟩
theorem dX1_quotient_0 : decode cX1_quotient 0 = .ok (.ldc2_w 33, 3) := by decide +kernel
theorem dX1_quotient_3 : decode cX1_quotient 3 = .ok (.lload_n 1, 1) := by decide +kernel
theorem dX1_quotient_4 : decode cX1_quotient 4 = .ok (.lmul, 1) := by decide +kernel
theorem dX1_quotient_5 : decode cX1_quotient 5 = .ok (.lload_n 3, 1) := by decide +kernel
theorem dX1_quotient_6 : decode cX1_quotient 6 = .ok (.ldiv, 1) := by decide +kernel
theorem dX1_quotient_7 : decode cX1_quotient 7 = .ok (.lstore 5, 2) := by decide +kernel
theorem dX1_quotient_9 : decode cX1_quotient 9 = .ok (.ldc2_w 33, 3) := by decide +kernel
theorem dX1_quotient_12 : decode cX1_quotient 12 = .ok (.lload_n 1, 1) := by decide +kernel
theorem dX1_quotient_13 : decode cX1_quotient 13 = .ok (.lmul, 1) := by decide +kernel
theorem dX1_quotient_14 : decode cX1_quotient 14 = .ok (.lload_n 3, 1) := by decide +kernel
theorem dX1_quotient_15 : decode cX1_quotient 15 = .ok (.lrem, 1) := by decide +kernel
theorem dX1_quotient_16 : decode cX1_quotient 16 = .ok (.lstore 7, 2) := by decide +kernel
theorem dX1_quotient_18 : decode cX1_quotient 18 = .ok (.lload 7, 2) := by decide +kernel
theorem dX1_quotient_20 : decode cX1_quotient 20 = .ok (.lload_n 3, 1) := by decide +kernel
theorem dX1_quotient_21 : decode cX1_quotient 21 = .ok (.lload 7, 2) := by decide +kernel
theorem dX1_quotient_23 : decode cX1_quotient 23 = .ok (.lsub, 1) := by decide +kernel
theorem dX1_quotient_24 : decode cX1_quotient 24 = .ok (.lcmp, 1) := by decide +kernel
theorem dX1_quotient_25 : decode cX1_quotient 25 = .ok (.ifCond .lt 10, 3) := by decide +kernel
theorem dX1_quotient_28 : decode cX1_quotient 28 = .ok (.lload 5, 2) := by decide +kernel
theorem dX1_quotient_30 : decode cX1_quotient 30 = .ok (.lconst 1, 1) := by decide +kernel
theorem dX1_quotient_31 : decode cX1_quotient 31 = .ok (.ladd, 1) := by decide +kernel
theorem dX1_quotient_32 : decode cX1_quotient 32 = .ok (.goto 5, 3) := by decide +kernel
theorem dX1_quotient_35 : decode cX1_quotient 35 = .ok (.lload 5, 2) := by decide +kernel
theorem dX1_quotient_37 : decode cX1_quotient 37 = .ok (.lreturn, 1) := by decide +kernel
abbrev cX1_reckon : ByteArray := prog_3_method_11_code
def yX1_reckon : MethodName := ⟨RX1, "reckon", "(IIII)J"⟩
theorem dX1_reckon_0 : decode cX1_reckon 0 = .ok (.aload_n 0, 1) := by decide +kernel
theorem dX1_reckon_1 : decode cX1_reckon 1 = .ok (.iconst 0, 1) := by decide +kernel
theorem dX1_reckon_2 : decode cX1_reckon 2 = .ok (.putfield 17, 3) := by decide +kernel
theorem dX1_reckon_5 : decode cX1_reckon 5 = .ok (.aload_n 0, 1) := by decide +kernel
theorem dX1_reckon_6 : decode cX1_reckon 6 = .ok (.iload_n 1, 1) := by decide +kernel
theorem dX1_reckon_7 : decode cX1_reckon 7 = .ok (.invokevirtual 21, 3) := by decide +kernel
theorem dX1_reckon_10 : decode cX1_reckon 10 = .ok (.ifCond .ne 29, 3) := by decide +kernel
theorem dX1_reckon_13 : decode cX1_reckon 13 = .ok (.iload_n 2, 1) := by decide +kernel
theorem dX1_reckon_14 : decode cX1_reckon 14 = .ok (.ifCond .lt 25, 3) := by decide +kernel
theorem dX1_reckon_17 : decode cX1_reckon 17 = .ok (.iload_n 2, 1) := by decide +kernel
theorem dX1_reckon_18 : decode cX1_reckon 18 = .ok (.iconst 4, 1) := by decide +kernel
theorem dX1_reckon_19 : decode cX1_reckon 19 = .ok (.if_icmp .gt 20, 3) := by decide +kernel
theorem dX1_reckon_22 : decode cX1_reckon 22 = .ok (.aload_n 0, 1) := by decide +kernel
theorem dX1_reckon_23 : decode cX1_reckon 23 = .ok (.iload_n 3, 1) := by decide +kernel
theorem dX1_reckon_24 : decode cX1_reckon 24 = .ok (.invokevirtual 21, 3) := by decide +kernel
theorem dX1_reckon_27 : decode cX1_reckon 27 = .ok (.ifCond .ne 12, 3) := by decide +kernel
theorem dX1_reckon_30 : decode cX1_reckon 30 = .ok (.aload_n 0, 1) := by decide +kernel
theorem dX1_reckon_31 : decode cX1_reckon 31 = .ok (.iload 4, 2) := by decide +kernel
theorem dX1_reckon_33 : decode cX1_reckon 33 = .ok (.invokevirtual 21, 3) := by decide +kernel
theorem dX1_reckon_36 : decode cX1_reckon 36 = .ok (.ifCond .eq 10, 3) := by decide +kernel
theorem dX1_reckon_39 : decode cX1_reckon 39 = .ok (.aload_n 0, 1) := by decide +kernel
theorem dX1_reckon_40 : decode cX1_reckon 40 = .ok (.iconst 1, 1) := by decide +kernel
theorem dX1_reckon_41 : decode cX1_reckon 41 = .ok (.invokevirtual 29, 3) := by decide +kernel
theorem dX1_reckon_44 : decode cX1_reckon 44 = .ok (.i2l, 1) := by decide +kernel
theorem dX1_reckon_45 : decode cX1_reckon 45 = .ok (.lreturn, 1) := by decide +kernel
theorem dX1_reckon_46 : decode cX1_reckon 46 = .ok (.aload_n 0, 1) := by decide +kernel
theorem dX1_reckon_47 : decode cX1_reckon 47 = .ok (.getfield 7, 3) := by decide +kernel
theorem dX1_reckon_50 : decode cX1_reckon 50 = .ok (.iload_n 3, 1) := by decide +kernel
theorem dX1_reckon_51 : decode cX1_reckon 51 = .ok (.laload, 1) := by decide +kernel
theorem dX1_reckon_52 : decode cX1_reckon 52 = .ok (.lstore 5, 2) := by decide +kernel
theorem dX1_reckon_54 : decode cX1_reckon 54 = .ok (.aload_n 0, 1) := by decide +kernel
theorem dX1_reckon_55 : decode cX1_reckon 55 = .ok (.getfield 7, 3) := by decide +kernel
theorem dX1_reckon_58 : decode cX1_reckon 58 = .ok (.iload 4, 2) := by decide +kernel
theorem dX1_reckon_60 : decode cX1_reckon 60 = .ok (.laload, 1) := by decide +kernel
theorem dX1_reckon_61 : decode cX1_reckon 61 = .ok (.lstore 7, 2) := by decide +kernel
theorem dX1_reckon_63 : decode cX1_reckon 63 = .ok (.iload_n 2, 1) := by decide +kernel
theorem dX1_reckon_64 : decode cX1_reckon 64 = .ok (.iconst 2, 1) := by decide +kernel
theorem dX1_reckon_65 : decode cX1_reckon 65 = .ok (.if_icmp .le 17, 3) := by decide +kernel
theorem dX1_reckon_68 : decode cX1_reckon 68 = .ok (.lload 7, 2) := by decide +kernel
theorem dX1_reckon_70 : decode cX1_reckon 70 = .ok (.lconst 0, 1) := by decide +kernel
theorem dX1_reckon_71 : decode cX1_reckon 71 = .ok (.lcmp, 1) := by decide +kernel
theorem dX1_reckon_72 : decode cX1_reckon 72 = .ok (.ifCond .ne 10, 3) := by decide +kernel
theorem dX1_reckon_75 : decode cX1_reckon 75 = .ok (.aload_n 0, 1) := by decide +kernel
theorem dX1_reckon_76 : decode cX1_reckon 76 = .ok (.iconst 2, 1) := by decide +kernel
theorem dX1_reckon_77 : decode cX1_reckon 77 = .ok (.invokevirtual 29, 3) := by decide +kernel
theorem dX1_reckon_80 : decode cX1_reckon 80 = .ok (.i2l, 1) := by decide +kernel
theorem dX1_reckon_81 : decode cX1_reckon 81 = .ok (.lreturn, 1) := by decide +kernel
theorem dX1_reckon_82 : decode cX1_reckon 82 = .ok (.iload_n 2, 1) := by decide +kernel
theorem dX1_reckon_83 : decode cX1_reckon 83 = .ok (.iconst 2, 1) := by decide +kernel
theorem dX1_reckon_84 : decode cX1_reckon 84 = .ok (.if_icmp .ge 46, 3) := by decide +kernel
theorem dX1_reckon_87 : decode cX1_reckon 87 = .ok (.iload_n 2, 1) := by decide +kernel
theorem dX1_reckon_88 : decode cX1_reckon 88 = .ok (.ifCond .ne 11, 3) := by decide +kernel
theorem dX1_reckon_91 : decode cX1_reckon 91 = .ok (.lload 5, 2) := by decide +kernel
theorem dX1_reckon_93 : decode cX1_reckon 93 = .ok (.lload 7, 2) := by decide +kernel
theorem dX1_reckon_95 : decode cX1_reckon 95 = .ok (.ladd, 1) := by decide +kernel
theorem dX1_reckon_96 : decode cX1_reckon 96 = .ok (.goto 8, 3) := by decide +kernel
theorem dX1_reckon_99 : decode cX1_reckon 99 = .ok (.lload 5, 2) := by decide +kernel
theorem dX1_reckon_101 : decode cX1_reckon 101 = .ok (.lload 7, 2) := by decide +kernel
theorem dX1_reckon_103 : decode cX1_reckon 103 = .ok (.lsub, 1) := by decide +kernel
theorem dX1_reckon_104 : decode cX1_reckon 104 = .ok (.lstore 9, 2) := by decide +kernel
theorem dX1_reckon_106 : decode cX1_reckon 106 = .ok (.aload_n 0, 1) := by decide +kernel
theorem dX1_reckon_107 : decode cX1_reckon 107 = .ok (.iload_n 1, 1) := by decide +kernel
theorem dX1_reckon_108 : decode cX1_reckon 108 = .ok (.lload 9, 2) := by decide +kernel
theorem dX1_reckon_110 : decode cX1_reckon 110 = .ok (.lconst 0, 1) := by decide +kernel
theorem dX1_reckon_111 : decode cX1_reckon 111 = .ok (.lcmp, 1) := by decide +kernel
theorem dX1_reckon_112 : decode cX1_reckon 112 = .ok (.ifCond .ge 7, 3) := by decide +kernel
theorem dX1_reckon_115 : decode cX1_reckon 115 = .ok (.iconst 1, 1) := by decide +kernel
theorem dX1_reckon_116 : decode cX1_reckon 116 = .ok (.goto 4, 3) := by decide +kernel
theorem dX1_reckon_119 : decode cX1_reckon 119 = .ok (.iconst 0, 1) := by decide +kernel
theorem dX1_reckon_120 : decode cX1_reckon 120 = .ok (.lload 9, 2) := by decide +kernel
theorem dX1_reckon_122 : decode cX1_reckon 122 = .ok (.invokestatic 39, 3) := by decide +kernel
theorem dX1_reckon_125 : decode cX1_reckon 125 = .ok (.iconst 3, 1) := by decide +kernel
theorem dX1_reckon_126 : decode cX1_reckon 126 = .ok (.invokevirtual 43, 3) := by decide +kernel
theorem dX1_reckon_129 : decode cX1_reckon 129 = .ok (.lreturn, 1) := by decide +kernel
theorem dX1_reckon_130 : decode cX1_reckon 130 = .ok (.lload 5, 2) := by decide +kernel
theorem dX1_reckon_132 : decode cX1_reckon 132 = .ok (.lconst 0, 1) := by decide +kernel
theorem dX1_reckon_133 : decode cX1_reckon 133 = .ok (.lcmp, 1) := by decide +kernel
theorem dX1_reckon_134 : decode cX1_reckon 134 = .ok (.ifCond .ge 7, 3) := by decide +kernel
theorem dX1_reckon_137 : decode cX1_reckon 137 = .ok (.iconst 1, 1) := by decide +kernel
theorem dX1_reckon_138 : decode cX1_reckon 138 = .ok (.goto 4, 3) := by decide +kernel
theorem dX1_reckon_141 : decode cX1_reckon 141 = .ok (.iconst 0, 1) := by decide +kernel
theorem dX1_reckon_142 : decode cX1_reckon 142 = .ok (.lload 7, 2) := by decide +kernel
theorem dX1_reckon_144 : decode cX1_reckon 144 = .ok (.lconst 0, 1) := by decide +kernel
theorem dX1_reckon_145 : decode cX1_reckon 145 = .ok (.lcmp, 1) := by decide +kernel
theorem dX1_reckon_146 : decode cX1_reckon 146 = .ok (.ifCond .ge 7, 3) := by decide +kernel
theorem dX1_reckon_149 : decode cX1_reckon 149 = .ok (.iconst 1, 1) := by decide +kernel
theorem dX1_reckon_150 : decode cX1_reckon 150 = .ok (.goto 4, 3) := by decide +kernel
theorem dX1_reckon_153 : decode cX1_reckon 153 = .ok (.iconst 0, 1) := by decide +kernel
theorem dX1_reckon_154 : decode cX1_reckon 154 = .ok (.if_icmp .eq 7, 3) := by decide +kernel
theorem dX1_reckon_157 : decode cX1_reckon 157 = .ok (.iconst 1, 1) := by decide +kernel
theorem dX1_reckon_158 : decode cX1_reckon 158 = .ok (.goto 4, 3) := by decide +kernel
theorem dX1_reckon_161 : decode cX1_reckon 161 = .ok (.iconst 0, 1) := by decide +kernel
theorem dX1_reckon_162 : decode cX1_reckon 162 = .ok (.istore 9, 2) := by decide +kernel
theorem dX1_reckon_164 : decode cX1_reckon 164 = .ok (.iload_n 2, 1) := by decide +kernel
theorem dX1_reckon_165 : decode cX1_reckon 165 = .ok (.iconst 2, 1) := by decide +kernel
theorem dX1_reckon_166 : decode cX1_reckon 166 = .ok (.if_icmp .ne 26, 3) := by decide +kernel
theorem dX1_reckon_169 : decode cX1_reckon 169 = .ok (.aload_n 0, 1) := by decide +kernel
theorem dX1_reckon_170 : decode cX1_reckon 170 = .ok (.iload_n 1, 1) := by decide +kernel
theorem dX1_reckon_171 : decode cX1_reckon 171 = .ok (.iload 9, 2) := by decide +kernel
theorem dX1_reckon_173 : decode cX1_reckon 173 = .ok (.aload_n 0, 1) := by decide +kernel
theorem dX1_reckon_174 : decode cX1_reckon 174 = .ok (.lload 5, 2) := by decide +kernel
theorem dX1_reckon_176 : decode cX1_reckon 176 = .ok (.invokestatic 39, 3) := by decide +kernel
theorem dX1_reckon_179 : decode cX1_reckon 179 = .ok (.lload 7, 2) := by decide +kernel
theorem dX1_reckon_181 : decode cX1_reckon 181 = .ok (.invokestatic 39, 3) := by decide +kernel
theorem dX1_reckon_184 : decode cX1_reckon 184 = .ok (.invokevirtual 47, 3) := by decide +kernel
theorem dX1_reckon_187 : decode cX1_reckon 187 = .ok (.iconst 3, 1) := by decide +kernel
theorem dX1_reckon_188 : decode cX1_reckon 188 = .ok (.invokevirtual 43, 3) := by decide +kernel
theorem dX1_reckon_191 : decode cX1_reckon 191 = .ok (.lreturn, 1) := by decide +kernel
theorem dX1_reckon_192 : decode cX1_reckon 192 = .ok (.iload_n 2, 1) := by decide +kernel
theorem dX1_reckon_193 : decode cX1_reckon 193 = .ok (.iconst 3, 1) := by decide +kernel
theorem dX1_reckon_194 : decode cX1_reckon 194 = .ok (.if_icmp .ne 26, 3) := by decide +kernel
theorem dX1_reckon_197 : decode cX1_reckon 197 = .ok (.aload_n 0, 1) := by decide +kernel
theorem dX1_reckon_198 : decode cX1_reckon 198 = .ok (.iload_n 1, 1) := by decide +kernel
theorem dX1_reckon_199 : decode cX1_reckon 199 = .ok (.iload 9, 2) := by decide +kernel
theorem dX1_reckon_201 : decode cX1_reckon 201 = .ok (.aload_n 0, 1) := by decide +kernel
theorem dX1_reckon_202 : decode cX1_reckon 202 = .ok (.lload 5, 2) := by decide +kernel
theorem dX1_reckon_204 : decode cX1_reckon 204 = .ok (.invokestatic 39, 3) := by decide +kernel
theorem dX1_reckon_207 : decode cX1_reckon 207 = .ok (.lload 7, 2) := by decide +kernel
theorem dX1_reckon_209 : decode cX1_reckon 209 = .ok (.invokestatic 39, 3) := by decide +kernel
theorem dX1_reckon_212 : decode cX1_reckon 212 = .ok (.invokevirtual 51, 3) := by decide +kernel
theorem dX1_reckon_215 : decode cX1_reckon 215 = .ok (.iconst 3, 1) := by decide +kernel
theorem dX1_reckon_216 : decode cX1_reckon 216 = .ok (.invokevirtual 43, 3) := by decide +kernel
theorem dX1_reckon_219 : decode cX1_reckon 219 = .ok (.lreturn, 1) := by decide +kernel
theorem dX1_reckon_220 : decode cX1_reckon 220 = .ok (.lload 5, 2) := by decide +kernel
theorem dX1_reckon_222 : decode cX1_reckon 222 = .ok (.invokestatic 39, 3) := by decide +kernel
theorem dX1_reckon_225 : decode cX1_reckon 225 = .ok (.lload 7, 2) := by decide +kernel
theorem dX1_reckon_227 : decode cX1_reckon 227 = .ok (.invokestatic 39, 3) := by decide +kernel
theorem dX1_reckon_230 : decode cX1_reckon 230 = .ok (.lrem, 1) := by decide +kernel
theorem dX1_reckon_231 : decode cX1_reckon 231 = .ok (.lstore 10, 2) := by decide +kernel
theorem dX1_reckon_233 : decode cX1_reckon 233 = .ok (.lload 10, 2) := by decide +kernel
theorem dX1_reckon_235 : decode cX1_reckon 235 = .ok (.lconst 0, 1) := by decide +kernel
theorem dX1_reckon_236 : decode cX1_reckon 236 = .ok (.lcmp, 1) := by decide +kernel
theorem dX1_reckon_237 : decode cX1_reckon 237 = .ok (.ifCond .le 18, 3) := by decide +kernel
theorem dX1_reckon_240 : decode cX1_reckon 240 = .ok (.iload 9, 2) := by decide +kernel
theorem dX1_reckon_242 : decode cX1_reckon 242 = .ok (.ifCond .eq 13, 3) := by decide +kernel
theorem dX1_reckon_245 : decode cX1_reckon 245 = .ok (.lload 7, 2) := by decide +kernel
theorem dX1_reckon_247 : decode cX1_reckon 247 = .ok (.invokestatic 39, 3) := by decide +kernel
theorem dX1_reckon_250 : decode cX1_reckon 250 = .ok (.lload 10, 2) := by decide +kernel
theorem dX1_reckon_252 : decode cX1_reckon 252 = .ok (.lsub, 1) := by decide +kernel
theorem dX1_reckon_253 : decode cX1_reckon 253 = .ok (.lstore 10, 2) := by decide +kernel
theorem dX1_reckon_255 : decode cX1_reckon 255 = .ok (.aload_n 0, 1) := by decide +kernel
theorem dX1_reckon_256 : decode cX1_reckon 256 = .ok (.iload_n 1, 1) := by decide +kernel
theorem dX1_reckon_257 : decode cX1_reckon 257 = .ok (.lload 7, 2) := by decide +kernel
theorem dX1_reckon_259 : decode cX1_reckon 259 = .ok (.lconst 0, 1) := by decide +kernel
theorem dX1_reckon_260 : decode cX1_reckon 260 = .ok (.lcmp, 1) := by decide +kernel
theorem dX1_reckon_261 : decode cX1_reckon 261 = .ok (.ifCond .ge 7, 3) := by decide +kernel
theorem dX1_reckon_264 : decode cX1_reckon 264 = .ok (.iconst 1, 1) := by decide +kernel
theorem dX1_reckon_265 : decode cX1_reckon 265 = .ok (.goto 4, 3) := by decide +kernel
theorem dX1_reckon_268 : decode cX1_reckon 268 = .ok (.iconst 0, 1) := by decide +kernel
theorem dX1_reckon_269 : decode cX1_reckon 269 = .ok (.lload 10, 2) := by decide +kernel
theorem dX1_reckon_271 : decode cX1_reckon 271 = .ok (.iconst 3, 1) := by decide +kernel
theorem dX1_reckon_272 : decode cX1_reckon 272 = .ok (.invokevirtual 43, 3) := by decide +kernel
theorem dX1_reckon_275 : decode cX1_reckon 275 = .ok (.lreturn, 1) := by decide +kernel
abbrev cX1_turn : ByteArray := prog_3_method_12_code
def yX1_turn : MethodName := ⟨RX1, "turn", "(III)J"⟩
theorem dX1_turn_0 : decode cX1_turn 0 = .ok (.aload_n 0, 1) := by decide +kernel
theorem dX1_turn_1 : decode cX1_turn 1 = .ok (.iconst 0, 1) := by decide +kernel
theorem dX1_turn_2 : decode cX1_turn 2 = .ok (.putfield 17, 3) := by decide +kernel
theorem dX1_turn_5 : decode cX1_turn 5 = .ok (.aload_n 0, 1) := by decide +kernel
theorem dX1_turn_6 : decode cX1_turn 6 = .ok (.iload_n 1, 1) := by decide +kernel
theorem dX1_turn_7 : decode cX1_turn 7 = .ok (.invokevirtual 21, 3) := by decide +kernel
theorem dX1_turn_10 : decode cX1_turn 10 = .ok (.ifCond .ne 20, 3) := by decide +kernel
theorem dX1_turn_13 : decode cX1_turn 13 = .ok (.iload_n 2, 1) := by decide +kernel
theorem dX1_turn_14 : decode cX1_turn 14 = .ok (.ifCond .lt 16, 3) := by decide +kernel
theorem dX1_turn_17 : decode cX1_turn 17 = .ok (.iload_n 2, 1) := by decide +kernel
theorem dX1_turn_18 : decode cX1_turn 18 = .ok (.iconst 3, 1) := by decide +kernel
theorem dX1_turn_19 : decode cX1_turn 19 = .ok (.if_icmp .gt 11, 3) := by decide +kernel
theorem dX1_turn_22 : decode cX1_turn 22 = .ok (.aload_n 0, 1) := by decide +kernel
theorem dX1_turn_23 : decode cX1_turn 23 = .ok (.iload_n 3, 1) := by decide +kernel
theorem dX1_turn_24 : decode cX1_turn 24 = .ok (.invokevirtual 21, 3) := by decide +kernel
theorem dX1_turn_27 : decode cX1_turn 27 = .ok (.ifCond .eq 10, 3) := by decide +kernel
theorem dX1_turn_30 : decode cX1_turn 30 = .ok (.aload_n 0, 1) := by decide +kernel
theorem dX1_turn_31 : decode cX1_turn 31 = .ok (.iconst 1, 1) := by decide +kernel
theorem dX1_turn_32 : decode cX1_turn 32 = .ok (.invokevirtual 29, 3) := by decide +kernel
theorem dX1_turn_35 : decode cX1_turn 35 = .ok (.i2l, 1) := by decide +kernel
theorem dX1_turn_36 : decode cX1_turn 36 = .ok (.lreturn, 1) := by decide +kernel
theorem dX1_turn_37 : decode cX1_turn 37 = .ok (.aload_n 0, 1) := by decide +kernel
theorem dX1_turn_38 : decode cX1_turn 38 = .ok (.getfield 7, 3) := by decide +kernel
theorem dX1_turn_41 : decode cX1_turn 41 = .ok (.iload_n 3, 1) := by decide +kernel
theorem dX1_turn_42 : decode cX1_turn 42 = .ok (.laload, 1) := by decide +kernel
theorem dX1_turn_43 : decode cX1_turn 43 = .ok (.lstore 4, 2) := by decide +kernel
theorem dX1_turn_45 : decode cX1_turn 45 = .ok (.iload_n 2, 1) := by decide +kernel
theorem dX1_turn_46 : decode cX1_turn 46 = .ok (.ifCond .ne 35, 3) := by decide +kernel
theorem dX1_turn_49 : decode cX1_turn 49 = .ok (.aload_n 0, 1) := by decide +kernel
theorem dX1_turn_50 : decode cX1_turn 50 = .ok (.iload_n 1, 1) := by decide +kernel
theorem dX1_turn_51 : decode cX1_turn 51 = .ok (.lload 4, 2) := by decide +kernel
theorem dX1_turn_53 : decode cX1_turn 53 = .ok (.lconst 0, 1) := by decide +kernel
theorem dX1_turn_54 : decode cX1_turn 54 = .ok (.lcmp, 1) := by decide +kernel
theorem dX1_turn_55 : decode cX1_turn 55 = .ok (.ifCond .ge 7, 3) := by decide +kernel
theorem dX1_turn_58 : decode cX1_turn 58 = .ok (.iconst 1, 1) := by decide +kernel
theorem dX1_turn_59 : decode cX1_turn 59 = .ok (.goto 4, 3) := by decide +kernel
theorem dX1_turn_62 : decode cX1_turn 62 = .ok (.iconst 0, 1) := by decide +kernel
theorem dX1_turn_63 : decode cX1_turn 63 = .ok (.lload 4, 2) := by decide +kernel
theorem dX1_turn_65 : decode cX1_turn 65 = .ok (.invokestatic 39, 3) := by decide +kernel
theorem dX1_turn_68 : decode cX1_turn 68 = .ok (.ldc2_w 54, 3) := by decide +kernel
theorem dX1_turn_71 : decode cX1_turn 71 = .ok (.ladd, 1) := by decide +kernel
theorem dX1_turn_72 : decode cX1_turn 72 = .ok (.ldc2_w 56, 3) := by decide +kernel
theorem dX1_turn_75 : decode cX1_turn 75 = .ok (.ldiv, 1) := by decide +kernel
theorem dX1_turn_76 : decode cX1_turn 76 = .ok (.iconst 2, 1) := by decide +kernel
theorem dX1_turn_77 : decode cX1_turn 77 = .ok (.invokevirtual 43, 3) := by decide +kernel
theorem dX1_turn_80 : decode cX1_turn 80 = .ok (.lreturn, 1) := by decide +kernel
theorem dX1_turn_81 : decode cX1_turn 81 = .ok (.iload_n 2, 1) := by decide +kernel
theorem dX1_turn_82 : decode cX1_turn 82 = .ok (.iconst 2, 1) := by decide +kernel
theorem dX1_turn_83 : decode cX1_turn 83 = .ok (.if_icmp .ne 16, 3) := by decide +kernel
theorem dX1_turn_86 : decode cX1_turn 86 = .ok (.aload_n 0, 1) := by decide +kernel
theorem dX1_turn_87 : decode cX1_turn 87 = .ok (.iload_n 1, 1) := by decide +kernel
theorem dX1_turn_88 : decode cX1_turn 88 = .ok (.iconst 0, 1) := by decide +kernel
theorem dX1_turn_89 : decode cX1_turn 89 = .ok (.lload 4, 2) := by decide +kernel
theorem dX1_turn_91 : decode cX1_turn 91 = .ok (.invokestatic 39, 3) := by decide +kernel
theorem dX1_turn_94 : decode cX1_turn 94 = .ok (.iconst 2, 1) := by decide +kernel
theorem dX1_turn_95 : decode cX1_turn 95 = .ok (.invokevirtual 43, 3) := by decide +kernel
theorem dX1_turn_98 : decode cX1_turn 98 = .ok (.lreturn, 1) := by decide +kernel
theorem dX1_turn_99 : decode cX1_turn 99 = .ok (.iload_n 2, 1) := by decide +kernel
theorem dX1_turn_100 : decode cX1_turn 100 = .ok (.iconst 3, 1) := by decide +kernel
theorem dX1_turn_101 : decode cX1_turn 101 = .ok (.if_icmp .ne 27, 3) := by decide +kernel
theorem dX1_turn_104 : decode cX1_turn 104 = .ok (.aload_n 0, 1) := by decide +kernel
theorem dX1_turn_105 : decode cX1_turn 105 = .ok (.iload_n 1, 1) := by decide +kernel
theorem dX1_turn_106 : decode cX1_turn 106 = .ok (.lload 4, 2) := by decide +kernel
theorem dX1_turn_108 : decode cX1_turn 108 = .ok (.lconst 0, 1) := by decide +kernel
theorem dX1_turn_109 : decode cX1_turn 109 = .ok (.lcmp, 1) := by decide +kernel
theorem dX1_turn_110 : decode cX1_turn 110 = .ok (.ifCond .le 7, 3) := by decide +kernel
theorem dX1_turn_113 : decode cX1_turn 113 = .ok (.iconst 1, 1) := by decide +kernel
theorem dX1_turn_114 : decode cX1_turn 114 = .ok (.goto 4, 3) := by decide +kernel
theorem dX1_turn_117 : decode cX1_turn 117 = .ok (.iconst 0, 1) := by decide +kernel
theorem dX1_turn_118 : decode cX1_turn 118 = .ok (.lload 4, 2) := by decide +kernel
theorem dX1_turn_120 : decode cX1_turn 120 = .ok (.invokestatic 39, 3) := by decide +kernel
theorem dX1_turn_123 : decode cX1_turn 123 = .ok (.iconst 2, 1) := by decide +kernel
theorem dX1_turn_124 : decode cX1_turn 124 = .ok (.invokevirtual 43, 3) := by decide +kernel
theorem dX1_turn_127 : decode cX1_turn 127 = .ok (.lreturn, 1) := by decide +kernel
theorem dX1_turn_128 : decode cX1_turn 128 = .ok (.lload 4, 2) := by decide +kernel
theorem dX1_turn_130 : decode cX1_turn 130 = .ok (.invokestatic 39, 3) := by decide +kernel
theorem dX1_turn_133 : decode cX1_turn 133 = .ok (.ldc2_w 33, 3) := by decide +kernel
theorem dX1_turn_136 : decode cX1_turn 136 = .ok (.ldiv, 1) := by decide +kernel
theorem dX1_turn_137 : decode cX1_turn 137 = .ok (.ldc2_w 33, 3) := by decide +kernel
theorem dX1_turn_140 : decode cX1_turn 140 = .ok (.lmul, 1) := by decide +kernel
theorem dX1_turn_141 : decode cX1_turn 141 = .ok (.lstore 6, 2) := by decide +kernel
theorem dX1_turn_143 : decode cX1_turn 143 = .ok (.lload 4, 2) := by decide +kernel
theorem dX1_turn_145 : decode cX1_turn 145 = .ok (.lconst 0, 1) := by decide +kernel
theorem dX1_turn_146 : decode cX1_turn 146 = .ok (.lcmp, 1) := by decide +kernel
theorem dX1_turn_147 : decode cX1_turn 147 = .ok (.ifCond .ge 22, 3) := by decide +kernel
theorem dX1_turn_150 : decode cX1_turn 150 = .ok (.lload 6, 2) := by decide +kernel
theorem dX1_turn_152 : decode cX1_turn 152 = .ok (.lload 4, 2) := by decide +kernel
theorem dX1_turn_154 : decode cX1_turn 154 = .ok (.invokestatic 39, 3) := by decide +kernel
theorem dX1_turn_157 : decode cX1_turn 157 = .ok (.lcmp, 1) := by decide +kernel
theorem dX1_turn_158 : decode cX1_turn 158 = .ok (.ifCond .ge 11, 3) := by decide +kernel
theorem dX1_turn_161 : decode cX1_turn 161 = .ok (.lload 6, 2) := by decide +kernel
theorem dX1_turn_163 : decode cX1_turn 163 = .ok (.ldc2_w 33, 3) := by decide +kernel
theorem dX1_turn_166 : decode cX1_turn 166 = .ok (.ladd, 1) := by decide +kernel
theorem dX1_turn_167 : decode cX1_turn 167 = .ok (.lstore 6, 2) := by decide +kernel
theorem dX1_turn_169 : decode cX1_turn 169 = .ok (.aload_n 0, 1) := by decide +kernel
theorem dX1_turn_170 : decode cX1_turn 170 = .ok (.iload_n 1, 1) := by decide +kernel
theorem dX1_turn_171 : decode cX1_turn 171 = .ok (.lload 4, 2) := by decide +kernel
theorem dX1_turn_173 : decode cX1_turn 173 = .ok (.lconst 0, 1) := by decide +kernel
theorem dX1_turn_174 : decode cX1_turn 174 = .ok (.lcmp, 1) := by decide +kernel
theorem dX1_turn_175 : decode cX1_turn 175 = .ok (.ifCond .ge 7, 3) := by decide +kernel
theorem dX1_turn_178 : decode cX1_turn 178 = .ok (.iconst 1, 1) := by decide +kernel
theorem dX1_turn_179 : decode cX1_turn 179 = .ok (.goto 4, 3) := by decide +kernel
theorem dX1_turn_182 : decode cX1_turn 182 = .ok (.iconst 0, 1) := by decide +kernel
theorem dX1_turn_183 : decode cX1_turn 183 = .ok (.lload 6, 2) := by decide +kernel
theorem dX1_turn_185 : decode cX1_turn 185 = .ok (.iconst 2, 1) := by decide +kernel
theorem dX1_turn_186 : decode cX1_turn 186 = .ok (.invokevirtual 43, 3) := by decide +kernel
theorem dX1_turn_189 : decode cX1_turn 189 = .ok (.lreturn, 1) := by decide +kernel
abbrev cX1_round : ByteArray := prog_3_method_13_code
def yX1_round : MethodName := ⟨RX1, "round", "(III)J"⟩
theorem dX1_round_0 : decode cX1_round 0 = .ok (.aload_n 0, 1) := by decide +kernel
theorem dX1_round_1 : decode cX1_round 1 = .ok (.iconst 0, 1) := by decide +kernel
theorem dX1_round_2 : decode cX1_round 2 = .ok (.putfield 17, 3) := by decide +kernel
theorem dX1_round_5 : decode cX1_round 5 = .ok (.aload_n 0, 1) := by decide +kernel
theorem dX1_round_6 : decode cX1_round 6 = .ok (.iload_n 1, 1) := by decide +kernel
theorem dX1_round_7 : decode cX1_round 7 = .ok (.invokevirtual 21, 3) := by decide +kernel
theorem dX1_round_10 : decode cX1_round 10 = .ok (.ifCond .ne 22, 3) := by decide +kernel
theorem dX1_round_13 : decode cX1_round 13 = .ok (.aload_n 0, 1) := by decide +kernel
theorem dX1_round_14 : decode cX1_round 14 = .ok (.iload_n 2, 1) := by decide +kernel
theorem dX1_round_15 : decode cX1_round 15 = .ok (.invokevirtual 21, 3) := by decide +kernel
theorem dX1_round_18 : decode cX1_round 18 = .ok (.ifCond .ne 14, 3) := by decide +kernel
theorem dX1_round_21 : decode cX1_round 21 = .ok (.iload_n 3, 1) := by decide +kernel
theorem dX1_round_22 : decode cX1_round 22 = .ok (.bipush (-9), 2) := by decide +kernel
theorem dX1_round_24 : decode cX1_round 24 = .ok (.if_icmp .lt 8, 3) := by decide +kernel
theorem dX1_round_27 : decode cX1_round 27 = .ok (.iload_n 3, 1) := by decide +kernel
theorem dX1_round_28 : decode cX1_round 28 = .ok (.iconst 4, 1) := by decide +kernel
theorem dX1_round_29 : decode cX1_round 29 = .ok (.if_icmp .le 10, 3) := by decide +kernel
theorem dX1_round_32 : decode cX1_round 32 = .ok (.aload_n 0, 1) := by decide +kernel
theorem dX1_round_33 : decode cX1_round 33 = .ok (.iconst 1, 1) := by decide +kernel
theorem dX1_round_34 : decode cX1_round 34 = .ok (.invokevirtual 29, 3) := by decide +kernel
theorem dX1_round_37 : decode cX1_round 37 = .ok (.i2l, 1) := by decide +kernel
theorem dX1_round_38 : decode cX1_round 38 = .ok (.lreturn, 1) := by decide +kernel
theorem dX1_round_39 : decode cX1_round 39 = .ok (.lconst 1, 1) := by decide +kernel
theorem dX1_round_40 : decode cX1_round 40 = .ok (.lstore 4, 2) := by decide +kernel
theorem dX1_round_42 : decode cX1_round 42 = .ok (.iload_n 3, 1) := by decide +kernel
theorem dX1_round_43 : decode cX1_round 43 = .ok (.istore 6, 2) := by decide +kernel
theorem dX1_round_45 : decode cX1_round 45 = .ok (.iload 6, 2) := by decide +kernel
theorem dX1_round_47 : decode cX1_round 47 = .ok (.iconst 4, 1) := by decide +kernel
theorem dX1_round_48 : decode cX1_round 48 = .ok (.if_icmp .ge 17, 3) := by decide +kernel
theorem dX1_round_51 : decode cX1_round 51 = .ok (.lload 4, 2) := by decide +kernel
theorem dX1_round_53 : decode cX1_round 53 = .ok (.ldc2_w 58, 3) := by decide +kernel
theorem dX1_round_56 : decode cX1_round 56 = .ok (.lmul, 1) := by decide +kernel
theorem dX1_round_57 : decode cX1_round 57 = .ok (.lstore 4, 2) := by decide +kernel
theorem dX1_round_59 : decode cX1_round 59 = .ok (.iinc 6 1, 3) := by decide +kernel
theorem dX1_round_62 : decode cX1_round 62 = .ok (.goto (-17), 3) := by decide +kernel
theorem dX1_round_65 : decode cX1_round 65 = .ok (.aload_n 0, 1) := by decide +kernel
theorem dX1_round_66 : decode cX1_round 66 = .ok (.getfield 7, 3) := by decide +kernel
theorem dX1_round_69 : decode cX1_round 69 = .ok (.iload_n 2, 1) := by decide +kernel
theorem dX1_round_70 : decode cX1_round 70 = .ok (.laload, 1) := by decide +kernel
theorem dX1_round_71 : decode cX1_round 71 = .ok (.lstore 6, 2) := by decide +kernel
theorem dX1_round_73 : decode cX1_round 73 = .ok (.lload 6, 2) := by decide +kernel
theorem dX1_round_75 : decode cX1_round 75 = .ok (.invokestatic 39, 3) := by decide +kernel
theorem dX1_round_78 : decode cX1_round 78 = .ok (.lload 4, 2) := by decide +kernel
theorem dX1_round_80 : decode cX1_round 80 = .ok (.ldiv, 1) := by decide +kernel
theorem dX1_round_81 : decode cX1_round 81 = .ok (.lload 4, 2) := by decide +kernel
theorem dX1_round_83 : decode cX1_round 83 = .ok (.lmul, 1) := by decide +kernel
theorem dX1_round_84 : decode cX1_round 84 = .ok (.lstore 8, 2) := by decide +kernel
theorem dX1_round_86 : decode cX1_round 86 = .ok (.lload 6, 2) := by decide +kernel
theorem dX1_round_88 : decode cX1_round 88 = .ok (.invokestatic 39, 3) := by decide +kernel
theorem dX1_round_91 : decode cX1_round 91 = .ok (.lload 8, 2) := by decide +kernel
theorem dX1_round_93 : decode cX1_round 93 = .ok (.lsub, 1) := by decide +kernel
theorem dX1_round_94 : decode cX1_round 94 = .ok (.lstore 10, 2) := by decide +kernel
theorem dX1_round_96 : decode cX1_round 96 = .ok (.lload 10, 2) := by decide +kernel
theorem dX1_round_98 : decode cX1_round 98 = .ok (.lload 4, 2) := by decide +kernel
theorem dX1_round_100 : decode cX1_round 100 = .ok (.lload 10, 2) := by decide +kernel
theorem dX1_round_102 : decode cX1_round 102 = .ok (.lsub, 1) := by decide +kernel
theorem dX1_round_103 : decode cX1_round 103 = .ok (.lcmp, 1) := by decide +kernel
theorem dX1_round_104 : decode cX1_round 104 = .ok (.ifCond .lt 10, 3) := by decide +kernel
theorem dX1_round_107 : decode cX1_round 107 = .ok (.lload 8, 2) := by decide +kernel
theorem dX1_round_109 : decode cX1_round 109 = .ok (.lload 4, 2) := by decide +kernel
theorem dX1_round_111 : decode cX1_round 111 = .ok (.ladd, 1) := by decide +kernel
theorem dX1_round_112 : decode cX1_round 112 = .ok (.lstore 8, 2) := by decide +kernel
theorem dX1_round_114 : decode cX1_round 114 = .ok (.aload_n 0, 1) := by decide +kernel
theorem dX1_round_115 : decode cX1_round 115 = .ok (.iload_n 1, 1) := by decide +kernel
theorem dX1_round_116 : decode cX1_round 116 = .ok (.lload 6, 2) := by decide +kernel
theorem dX1_round_118 : decode cX1_round 118 = .ok (.lconst 0, 1) := by decide +kernel
theorem dX1_round_119 : decode cX1_round 119 = .ok (.lcmp, 1) := by decide +kernel
theorem dX1_round_120 : decode cX1_round 120 = .ok (.ifCond .ge 7, 3) := by decide +kernel
theorem dX1_round_123 : decode cX1_round 123 = .ok (.iconst 1, 1) := by decide +kernel
theorem dX1_round_124 : decode cX1_round 124 = .ok (.goto 4, 3) := by decide +kernel
theorem dX1_round_127 : decode cX1_round 127 = .ok (.iconst 0, 1) := by decide +kernel
theorem dX1_round_128 : decode cX1_round 128 = .ok (.lload 8, 2) := by decide +kernel
theorem dX1_round_130 : decode cX1_round 130 = .ok (.iconst 2, 1) := by decide +kernel
theorem dX1_round_131 : decode cX1_round 131 = .ok (.invokevirtual 43, 3) := by decide +kernel
theorem dX1_round_134 : decode cX1_round 134 = .ok (.lreturn, 1) := by decide +kernel
abbrev cX1_print : ByteArray := prog_3_method_14_code
def yX1_print : MethodName := ⟨RX1, "print", "(II)I"⟩
theorem dX1_print_0 : decode cX1_print 0 = .ok (.aload_n 0, 1) := by decide +kernel
theorem dX1_print_1 : decode cX1_print 1 = .ok (.iconst 0, 1) := by decide +kernel
theorem dX1_print_2 : decode cX1_print 2 = .ok (.putfield 17, 3) := by decide +kernel
theorem dX1_print_5 : decode cX1_print 5 = .ok (.aload_n 0, 1) := by decide +kernel
theorem dX1_print_6 : decode cX1_print 6 = .ok (.iload_n 1, 1) := by decide +kernel
theorem dX1_print_7 : decode cX1_print 7 = .ok (.invokevirtual 21, 3) := by decide +kernel
theorem dX1_print_10 : decode cX1_print 10 = .ok (.ifCond .ne 7, 3) := by decide +kernel
theorem dX1_print_13 : decode cX1_print 13 = .ok (.iload_n 2, 1) := by decide +kernel
theorem dX1_print_14 : decode cX1_print 14 = .ok (.ifCond .ge 9, 3) := by decide +kernel
theorem dX1_print_17 : decode cX1_print 17 = .ok (.aload_n 0, 1) := by decide +kernel
theorem dX1_print_18 : decode cX1_print 18 = .ok (.iconst 1, 1) := by decide +kernel
theorem dX1_print_19 : decode cX1_print 19 = .ok (.invokevirtual 29, 3) := by decide +kernel
theorem dX1_print_22 : decode cX1_print 22 = .ok (.ireturn, 1) := by decide +kernel
theorem dX1_print_23 : decode cX1_print 23 = .ok (.iconst 0, 1) := by decide +kernel
theorem dX1_print_24 : decode cX1_print 24 = .ok (.istore_n 3, 1) := by decide +kernel
theorem dX1_print_25 : decode cX1_print 25 = .ok (.aload_n 0, 1) := by decide +kernel
theorem dX1_print_26 : decode cX1_print 26 = .ok (.getfield 7, 3) := by decide +kernel
theorem dX1_print_29 : decode cX1_print 29 = .ok (.iload_n 1, 1) := by decide +kernel
theorem dX1_print_30 : decode cX1_print 30 = .ok (.laload, 1) := by decide +kernel
theorem dX1_print_31 : decode cX1_print 31 = .ok (.invokestatic 39, 3) := by decide +kernel
theorem dX1_print_34 : decode cX1_print 34 = .ok (.lstore 4, 2) := by decide +kernel
theorem dX1_print_36 : decode cX1_print 36 = .ok (.aload_n 0, 1) := by decide +kernel
theorem dX1_print_37 : decode cX1_print 37 = .ok (.getfield 7, 3) := by decide +kernel
theorem dX1_print_40 : decode cX1_print 40 = .ok (.iload_n 1, 1) := by decide +kernel
theorem dX1_print_41 : decode cX1_print 41 = .ok (.laload, 1) := by decide +kernel
theorem dX1_print_42 : decode cX1_print 42 = .ok (.lconst 0, 1) := by decide +kernel
theorem dX1_print_43 : decode cX1_print 43 = .ok (.lcmp, 1) := by decide +kernel
theorem dX1_print_44 : decode cX1_print 44 = .ok (.ifCond .ge 14, 3) := by decide +kernel
theorem dX1_print_47 : decode cX1_print 47 = .ok (.aload_n 0, 1) := by decide +kernel
theorem dX1_print_48 : decode cX1_print 48 = .ok (.getfield 13, 3) := by decide +kernel
theorem dX1_print_51 : decode cX1_print 51 = .ok (.iload_n 3, 1) := by decide +kernel
theorem dX1_print_52 : decode cX1_print 52 = .ok (.iinc 3 1, 3) := by decide +kernel
theorem dX1_print_55 : decode cX1_print 55 = .ok (.bipush 45, 2) := by decide +kernel
theorem dX1_print_57 : decode cX1_print 57 = .ok (.iastore, 1) := by decide +kernel
theorem dX1_print_58 : decode cX1_print 58 = .ok (.lconst 1, 1) := by decide +kernel
theorem dX1_print_59 : decode cX1_print 59 = .ok (.lstore 6, 2) := by decide +kernel
theorem dX1_print_61 : decode cX1_print 61 = .ok (.lload 4, 2) := by decide +kernel
theorem dX1_print_63 : decode cX1_print 63 = .ok (.ldc2_w 33, 3) := by decide +kernel
theorem dX1_print_66 : decode cX1_print 66 = .ok (.ldiv, 1) := by decide +kernel
theorem dX1_print_67 : decode cX1_print 67 = .ok (.lload 6, 2) := by decide +kernel
theorem dX1_print_69 : decode cX1_print 69 = .ok (.ldiv, 1) := by decide +kernel
theorem dX1_print_70 : decode cX1_print 70 = .ok (.ldc2_w 60, 3) := by decide +kernel
theorem dX1_print_73 : decode cX1_print 73 = .ok (.lcmp, 1) := by decide +kernel
theorem dX1_print_74 : decode cX1_print 74 = .ok (.ifCond .le 14, 3) := by decide +kernel
theorem dX1_print_77 : decode cX1_print 77 = .ok (.lload 6, 2) := by decide +kernel
theorem dX1_print_79 : decode cX1_print 79 = .ok (.ldc2_w 58, 3) := by decide +kernel
theorem dX1_print_82 : decode cX1_print 82 = .ok (.lmul, 1) := by decide +kernel
theorem dX1_print_83 : decode cX1_print 83 = .ok (.lstore 6, 2) := by decide +kernel
theorem dX1_print_85 : decode cX1_print 85 = .ok (.goto (-24), 3) := by decide +kernel
theorem dX1_print_88 : decode cX1_print 88 = .ok (.lload 6, 2) := by decide +kernel
theorem dX1_print_90 : decode cX1_print 90 = .ok (.lconst 0, 1) := by decide +kernel
theorem dX1_print_91 : decode cX1_print 91 = .ok (.lcmp, 1) := by decide +kernel
theorem dX1_print_92 : decode cX1_print 92 = .ok (.ifCond .le 41, 3) := by decide +kernel
theorem dX1_print_95 : decode cX1_print 95 = .ok (.aload_n 0, 1) := by decide +kernel
theorem dX1_print_96 : decode cX1_print 96 = .ok (.getfield 13, 3) := by decide +kernel
theorem dX1_print_99 : decode cX1_print 99 = .ok (.iload_n 3, 1) := by decide +kernel
theorem dX1_print_100 : decode cX1_print 100 = .ok (.iinc 3 1, 3) := by decide +kernel
theorem dX1_print_103 : decode cX1_print 103 = .ok (.ldc2_w 62, 3) := by decide +kernel
theorem dX1_print_106 : decode cX1_print 106 = .ok (.lload 4, 2) := by decide +kernel
theorem dX1_print_108 : decode cX1_print 108 = .ok (.ldc2_w 33, 3) := by decide +kernel
theorem dX1_print_111 : decode cX1_print 111 = .ok (.ldiv, 1) := by decide +kernel
theorem dX1_print_112 : decode cX1_print 112 = .ok (.lload 6, 2) := by decide +kernel
theorem dX1_print_114 : decode cX1_print 114 = .ok (.ldiv, 1) := by decide +kernel
theorem dX1_print_115 : decode cX1_print 115 = .ok (.ldc2_w 58, 3) := by decide +kernel
theorem dX1_print_118 : decode cX1_print 118 = .ok (.lrem, 1) := by decide +kernel
theorem dX1_print_119 : decode cX1_print 119 = .ok (.ladd, 1) := by decide +kernel
theorem dX1_print_120 : decode cX1_print 120 = .ok (.l2i, 1) := by decide +kernel
theorem dX1_print_121 : decode cX1_print 121 = .ok (.iastore, 1) := by decide +kernel
theorem dX1_print_122 : decode cX1_print 122 = .ok (.lload 6, 2) := by decide +kernel
theorem dX1_print_124 : decode cX1_print 124 = .ok (.ldc2_w 58, 3) := by decide +kernel
theorem dX1_print_127 : decode cX1_print 127 = .ok (.ldiv, 1) := by decide +kernel
theorem dX1_print_128 : decode cX1_print 128 = .ok (.lstore 6, 2) := by decide +kernel
theorem dX1_print_130 : decode cX1_print 130 = .ok (.goto (-42), 3) := by decide +kernel
theorem dX1_print_133 : decode cX1_print 133 = .ok (.lload 4, 2) := by decide +kernel
theorem dX1_print_135 : decode cX1_print 135 = .ok (.ldc2_w 33, 3) := by decide +kernel
theorem dX1_print_138 : decode cX1_print 138 = .ok (.lrem, 1) := by decide +kernel
theorem dX1_print_139 : decode cX1_print 139 = .ok (.lstore 8, 2) := by decide +kernel
theorem dX1_print_141 : decode cX1_print 141 = .ok (.lload 8, 2) := by decide +kernel
theorem dX1_print_143 : decode cX1_print 143 = .ok (.lconst 0, 1) := by decide +kernel
theorem dX1_print_144 : decode cX1_print 144 = .ok (.lcmp, 1) := by decide +kernel
theorem dX1_print_145 : decode cX1_print 145 = .ok (.ifCond .le 14, 3) := by decide +kernel
theorem dX1_print_148 : decode cX1_print 148 = .ok (.aload_n 0, 1) := by decide +kernel
theorem dX1_print_149 : decode cX1_print 149 = .ok (.getfield 13, 3) := by decide +kernel
theorem dX1_print_152 : decode cX1_print 152 = .ok (.iload_n 3, 1) := by decide +kernel
theorem dX1_print_153 : decode cX1_print 153 = .ok (.iinc 3 1, 3) := by decide +kernel
theorem dX1_print_156 : decode cX1_print 156 = .ok (.bipush 46, 2) := by decide +kernel
theorem dX1_print_158 : decode cX1_print 158 = .ok (.iastore, 1) := by decide +kernel
theorem dX1_print_159 : decode cX1_print 159 = .ok (.ldc2_w 64, 3) := by decide +kernel
theorem dX1_print_162 : decode cX1_print 162 = .ok (.lstore 10, 2) := by decide +kernel
theorem dX1_print_164 : decode cX1_print 164 = .ok (.lload 8, 2) := by decide +kernel
theorem dX1_print_166 : decode cX1_print 166 = .ok (.lconst 0, 1) := by decide +kernel
theorem dX1_print_167 : decode cX1_print 167 = .ok (.lcmp, 1) := by decide +kernel
theorem dX1_print_168 : decode cX1_print 168 = .ok (.ifCond .le 40, 3) := by decide +kernel
theorem dX1_print_171 : decode cX1_print 171 = .ok (.aload_n 0, 1) := by decide +kernel
theorem dX1_print_172 : decode cX1_print 172 = .ok (.getfield 13, 3) := by decide +kernel
theorem dX1_print_175 : decode cX1_print 175 = .ok (.iload_n 3, 1) := by decide +kernel
theorem dX1_print_176 : decode cX1_print 176 = .ok (.iinc 3 1, 3) := by decide +kernel
theorem dX1_print_179 : decode cX1_print 179 = .ok (.ldc2_w 62, 3) := by decide +kernel
theorem dX1_print_182 : decode cX1_print 182 = .ok (.lload 8, 2) := by decide +kernel
theorem dX1_print_184 : decode cX1_print 184 = .ok (.lload 10, 2) := by decide +kernel
theorem dX1_print_186 : decode cX1_print 186 = .ok (.ldiv, 1) := by decide +kernel
theorem dX1_print_187 : decode cX1_print 187 = .ok (.ladd, 1) := by decide +kernel
theorem dX1_print_188 : decode cX1_print 188 = .ok (.l2i, 1) := by decide +kernel
theorem dX1_print_189 : decode cX1_print 189 = .ok (.iastore, 1) := by decide +kernel
theorem dX1_print_190 : decode cX1_print 190 = .ok (.lload 8, 2) := by decide +kernel
theorem dX1_print_192 : decode cX1_print 192 = .ok (.lload 10, 2) := by decide +kernel
theorem dX1_print_194 : decode cX1_print 194 = .ok (.lrem, 1) := by decide +kernel
theorem dX1_print_195 : decode cX1_print 195 = .ok (.lstore 8, 2) := by decide +kernel
theorem dX1_print_197 : decode cX1_print 197 = .ok (.lload 10, 2) := by decide +kernel
theorem dX1_print_199 : decode cX1_print 199 = .ok (.ldc2_w 58, 3) := by decide +kernel
theorem dX1_print_202 : decode cX1_print 202 = .ok (.ldiv, 1) := by decide +kernel
theorem dX1_print_203 : decode cX1_print 203 = .ok (.lstore 10, 2) := by decide +kernel
theorem dX1_print_205 : decode cX1_print 205 = .ok (.goto (-41), 3) := by decide +kernel
theorem dX1_print_208 : decode cX1_print 208 = .ok (.iload_n 2, 1) := by decide +kernel
theorem dX1_print_209 : decode cX1_print 209 = .ok (.iload_n 3, 1) := by decide +kernel
theorem dX1_print_210 : decode cX1_print 210 = .ok (.if_icmp .ge 12, 3) := by decide +kernel
theorem dX1_print_213 : decode cX1_print 213 = .ok (.aload_n 0, 1) := by decide +kernel
theorem dX1_print_214 : decode cX1_print 214 = .ok (.getfield 13, 3) := by decide +kernel
theorem dX1_print_217 : decode cX1_print 217 = .ok (.iload_n 2, 1) := by decide +kernel
theorem dX1_print_218 : decode cX1_print 218 = .ok (.iaload, 1) := by decide +kernel
theorem dX1_print_219 : decode cX1_print 219 = .ok (.goto 4, 3) := by decide +kernel
theorem dX1_print_222 : decode cX1_print 222 = .ok (.iconst (-1), 1) := by decide +kernel
theorem dX1_print_223 : decode cX1_print 223 = .ok (.ireturn, 1) := by decide +kernel
abbrev cX1_average : ByteArray := prog_3_method_15_code
def yX1_average : MethodName := ⟨RX1, "average", "(I)J"⟩
theorem dX1_average_0 : decode cX1_average 0 = .ok (.aload_n 0, 1) := by decide +kernel
theorem dX1_average_1 : decode cX1_average 1 = .ok (.iconst 0, 1) := by decide +kernel
theorem dX1_average_2 : decode cX1_average 2 = .ok (.putfield 17, 3) := by decide +kernel
theorem dX1_average_5 : decode cX1_average 5 = .ok (.iload_n 1, 1) := by decide +kernel
theorem dX1_average_6 : decode cX1_average 6 = .ok (.iconst 1, 1) := by decide +kernel
theorem dX1_average_7 : decode cX1_average 7 = .ok (.if_icmp .lt 9, 3) := by decide +kernel
theorem dX1_average_10 : decode cX1_average 10 = .ok (.iload_n 1, 1) := by decide +kernel
theorem dX1_average_11 : decode cX1_average 11 = .ok (.bipush 8, 2) := by decide +kernel
theorem dX1_average_13 : decode cX1_average 13 = .ok (.if_icmp .le 10, 3) := by decide +kernel
theorem dX1_average_16 : decode cX1_average 16 = .ok (.aload_n 0, 1) := by decide +kernel
theorem dX1_average_17 : decode cX1_average 17 = .ok (.iconst 1, 1) := by decide +kernel
theorem dX1_average_18 : decode cX1_average 18 = .ok (.invokevirtual 29, 3) := by decide +kernel
theorem dX1_average_21 : decode cX1_average 21 = .ok (.i2l, 1) := by decide +kernel
theorem dX1_average_22 : decode cX1_average 22 = .ok (.lreturn, 1) := by decide +kernel
theorem dX1_average_23 : decode cX1_average 23 = .ok (.lconst 0, 1) := by decide +kernel
theorem dX1_average_24 : decode cX1_average 24 = .ok (.lstore_n 2, 1) := by decide +kernel
theorem dX1_average_25 : decode cX1_average 25 = .ok (.iconst 0, 1) := by decide +kernel
theorem dX1_average_26 : decode cX1_average 26 = .ok (.istore 4, 2) := by decide +kernel
theorem dX1_average_28 : decode cX1_average 28 = .ok (.iload 4, 2) := by decide +kernel
theorem dX1_average_30 : decode cX1_average 30 = .ok (.iload_n 1, 1) := by decide +kernel
theorem dX1_average_31 : decode cX1_average 31 = .ok (.if_icmp .ge 37, 3) := by decide +kernel
theorem dX1_average_34 : decode cX1_average 34 = .ok (.lload_n 2, 1) := by decide +kernel
theorem dX1_average_35 : decode cX1_average 35 = .ok (.aload_n 0, 1) := by decide +kernel
theorem dX1_average_36 : decode cX1_average 36 = .ok (.getfield 7, 3) := by decide +kernel
theorem dX1_average_39 : decode cX1_average 39 = .ok (.iload 4, 2) := by decide +kernel
theorem dX1_average_41 : decode cX1_average 41 = .ok (.laload, 1) := by decide +kernel
theorem dX1_average_42 : decode cX1_average 42 = .ok (.ladd, 1) := by decide +kernel
theorem dX1_average_43 : decode cX1_average 43 = .ok (.lstore_n 2, 1) := by decide +kernel
theorem dX1_average_44 : decode cX1_average 44 = .ok (.lload_n 2, 1) := by decide +kernel
theorem dX1_average_45 : decode cX1_average 45 = .ok (.invokestatic 39, 3) := by decide +kernel
theorem dX1_average_48 : decode cX1_average 48 = .ok (.ldc2_w 27, 3) := by decide +kernel
theorem dX1_average_51 : decode cX1_average 51 = .ok (.lcmp, 1) := by decide +kernel
theorem dX1_average_52 : decode cX1_average 52 = .ok (.ifCond .le 10, 3) := by decide +kernel
theorem dX1_average_55 : decode cX1_average 55 = .ok (.aload_n 0, 1) := by decide +kernel
theorem dX1_average_56 : decode cX1_average 56 = .ok (.iconst 2, 1) := by decide +kernel
theorem dX1_average_57 : decode cX1_average 57 = .ok (.invokevirtual 29, 3) := by decide +kernel
theorem dX1_average_60 : decode cX1_average 60 = .ok (.i2l, 1) := by decide +kernel
theorem dX1_average_61 : decode cX1_average 61 = .ok (.lreturn, 1) := by decide +kernel
theorem dX1_average_62 : decode cX1_average 62 = .ok (.iinc 4 1, 3) := by decide +kernel
theorem dX1_average_65 : decode cX1_average 65 = .ok (.goto (-37), 3) := by decide +kernel
theorem dX1_average_68 : decode cX1_average 68 = .ok (.aload_n 0, 1) := by decide +kernel
theorem dX1_average_69 : decode cX1_average 69 = .ok (.lload_n 2, 1) := by decide +kernel
theorem dX1_average_70 : decode cX1_average 70 = .ok (.invokestatic 39, 3) := by decide +kernel
theorem dX1_average_73 : decode cX1_average 73 = .ok (.ldc2_w 33, 3) := by decide +kernel
theorem dX1_average_76 : decode cX1_average 76 = .ok (.iload_n 1, 1) := by decide +kernel
theorem dX1_average_77 : decode cX1_average 77 = .ok (.i2l, 1) := by decide +kernel
theorem dX1_average_78 : decode cX1_average 78 = .ok (.lmul, 1) := by decide +kernel
theorem dX1_average_79 : decode cX1_average 79 = .ok (.invokevirtual 51, 3) := by decide +kernel
theorem dX1_average_82 : decode cX1_average 82 = .ok (.lstore 4, 2) := by decide +kernel
theorem dX1_average_84 : decode cX1_average 84 = .ok (.lload_n 2, 1) := by decide +kernel
theorem dX1_average_85 : decode cX1_average 85 = .ok (.lconst 0, 1) := by decide +kernel
theorem dX1_average_86 : decode cX1_average 86 = .ok (.lcmp, 1) := by decide +kernel
theorem dX1_average_87 : decode cX1_average 87 = .ok (.ifCond .ge 9, 3) := by decide +kernel
theorem dX1_average_90 : decode cX1_average 90 = .ok (.lload 4, 2) := by decide +kernel
theorem dX1_average_92 : decode cX1_average 92 = .ok (.lneg, 1) := by decide +kernel
theorem dX1_average_93 : decode cX1_average 93 = .ok (.goto 5, 3) := by decide +kernel
theorem dX1_average_96 : decode cX1_average 96 = .ok (.lload 4, 2) := by decide +kernel
theorem dX1_average_98 : decode cX1_average 98 = .ok (.lreturn, 1) := by decide +kernel
/-- the table words that a call may hand on -/
def gws : List Cond := lw_tbl.filter goodWord
theorem gws_good {w : Cond} (h : w ∈ gws) : goodWord w = true := (List.mem_filter.mp h).2
theorem gws_tbl {w : Cond} (h : w ∈ gws) : w ∈ lw_tbl := (List.mem_filter.mp h).1
theorem gws_at {w : Cond} (i : Nat) (h : lw_tbl[i]? = some w) (hg : goodWord w = true) : w ∈ gws := List.mem_filter.mpr ⟨List.mem_of_getElem? h, hg⟩
theorem se_yX1_out : Cond.selects RX1 yX1_out yX1_out ∈ gws := gws_at 1 (by decide +kernel) (by decide +kernel)
theorem se_yX1_fail : Cond.selects RX1 yX1_fail yX1_fail ∈ gws := gws_at 2 (by decide +kernel) (by decide +kernel)
theorem se_yX1_put : Cond.selects RX1 yX1_put yX1_put ∈ gws := gws_at 3 (by decide +kernel) (by decide +kernel)
theorem se_yX1_product : Cond.selects RX1 yX1_product yX1_product ∈ gws := gws_at 4 (by decide +kernel) (by decide +kernel)
theorem se_yX1_quotient : Cond.selects RX1 yX1_quotient yX1_quotient ∈ gws := gws_at 5 (by decide +kernel) (by decide +kernel)
theorem in_L : Cond.initialized RL ∈ gws := gws_at 6 (by decide +kernel) (by decide +kernel)
theorem in_X0 : Cond.initialized RX0 ∈ gws := gws_at 7 (by decide +kernel) (by decide +kernel)
theorem in_X1 : Cond.initialized RX1 ∈ gws := gws_at 8 (by decide +kernel) (by decide +kernel)
theorem in_Throwable : Cond.initialized "java/lang/Throwable" ∈ gws := gws_at 9 (by decide +kernel) (by decide +kernel)
theorem in_Exception : Cond.initialized "java/lang/Exception" ∈ gws := gws_at 10 (by decide +kernel) (by decide +kernel)
theorem in_RuntimeException : Cond.initialized "java/lang/RuntimeException" ∈ gws := gws_at 11 (by decide +kernel) (by decide +kernel)
theorem in_IllegalArgumentException : Cond.initialized "java/lang/IllegalArgumentException" ∈ gws := gws_at 12 (by decide +kernel) (by decide +kernel)
theorem in_UnsupportedOperationException : Cond.initialized "java/lang/UnsupportedOperationException" ∈ gws := gws_at 13 (by decide +kernel) (by decide +kernel)
theorem in_J9 : Cond.initialized RJ9 ∈ gws := gws_at 14 (by decide +kernel) (by decide +kernel)
theorem in_ArithmeticException : Cond.initialized "java/lang/ArithmeticException" ∈ gws := gws_at 15 (by decide +kernel) (by decide +kernel)
theorem cl_L_8 : Cond.classLink RL 8 RX0 ∈ gws := gws_at 16 (by decide +kernel) (by decide +kernel)
theorem nt_X0 : Cond.instantiable RX0 1 ∈ gws := gws_at 17 (by decide +kernel) (by decide +kernel)
theorem ml_L_41 : Cond.methodLink RL 41 yX0_init ∈ gws := gws_at 18 (by decide +kernel) (by decide +kernel)
theorem im_yX0_init : Cond.instanceMethod yX0_init ∈ gws := gws_at 19 (by decide +kernel) (by decide +kernel)
theorem cd_yX0_init : Cond.code yX0_init cX0_init 1 none ∈ gws := gws_at 20 (by decide +kernel) (by decide +kernel)
theorem ml_X0_1 : Cond.methodLink RX0 1 objectInit ∈ gws := gws_at 21 (by decide +kernel) (by decide +kernel)
theorem im_objectInit : Cond.instanceMethod objectInit ∈ gws := gws_at 22 (by decide +kernel) (by decide +kernel)
theorem cd_objectInit : Cond.code objectInit ⟨#[0xb1]⟩ 1 none ∈ gws := gws_at 23 (by decide +kernel) (by decide +kernel)
theorem fl_X0_9 : Cond.fieldLink RX0 9 "TenThousandthDesk" "registers" "[J" ∈ gws := gws_at 24 (by decide +kernel) (by decide +kernel)
theorem ac_long : Cond.arrayClass .long ∈ gws := gws_at 28 (by decide +kernel) (by decide +kernel)
theorem ml_L_47 : Cond.methodLink RL 47 yL_set ∈ gws := gws_at 29 (by decide +kernel) (by decide +kernel)
theorem st_yL_set : Cond.static yL_set ∈ gws := gws_at 30 (by decide +kernel) (by decide +kernel)
theorem cd_yL_set : Cond.codeWith yL_set cL_set 6 (some .int) [(0, 10, 13, 13)] ∈ gws := gws_at 31 (by decide +kernel) (by decide +kernel)
theorem cl_L_13 : Cond.classLink RL 13 "java/lang/IllegalArgumentException" ∈ gws := gws_at 32 (by decide +kernel) (by decide +kernel)
theorem ml_L_7 : Cond.methodLink RL 7 yX0_set ∈ gws := gws_at 33 (by decide +kernel) (by decide +kernel)
theorem im_yX0_set : Cond.instanceMethod yX0_set ∈ gws := gws_at 34 (by decide +kernel) (by decide +kernel)
theorem se_yX0_set : Cond.selects RX0 yX0_set yX0_set ∈ gws := gws_at 35 (by decide +kernel) (by decide +kernel)
theorem cd_yX0_set : Cond.code yX0_set cX0_set 6 (some .long) ∈ gws := gws_at 36 (by decide +kernel) (by decide +kernel)
theorem ml_X0_13 : Cond.methodLink RX0 13 yX0_isRegister ∈ gws := gws_at 37 (by decide +kernel) (by decide +kernel)
theorem st_yX0_isRegister : Cond.static yX0_isRegister ∈ gws := gws_at 38 (by decide +kernel) (by decide +kernel)
theorem cd_yX0_isRegister : Cond.code yX0_isRegister cX0_isRegister 1 (some .boolean) ∈ gws := gws_at 39 (by decide +kernel) (by decide +kernel)
theorem ml_X0_17 : Cond.methodLink RX0 17 yX0_isNumber ∈ gws := gws_at 40 (by decide +kernel) (by decide +kernel)
theorem st_yX0_isNumber : Cond.static yX0_isNumber ∈ gws := gws_at 41 (by decide +kernel) (by decide +kernel)
theorem cd_yX0_isNumber : Cond.code yX0_isNumber cX0_isNumber 2 (some .boolean) ∈ gws := gws_at 42 (by decide +kernel) (by decide +kernel)
theorem kl_X0_47 : Cond.constantLong RX0 47 (-900000000000000) ∈ gws := gws_at 43 (by decide +kernel) (by decide +kernel)
theorem kl_X0_49 : Cond.constantLong RX0 49 (900000000000000) ∈ gws := gws_at 44 (by decide +kernel) (by decide +kernel)
theorem cl_X0_21 : Cond.classLink RX0 21 "java/lang/IllegalArgumentException" ∈ gws := gws_at 45 (by decide +kernel) (by decide +kernel)
theorem ml_L_57 : Cond.methodLink RL 57 yL_get ∈ gws := gws_at 108 (by decide +kernel) (by decide +kernel)
theorem st_yL_get : Cond.static yL_get ∈ gws := gws_at 109 (by decide +kernel) (by decide +kernel)
theorem cd_yL_get : Cond.codeWith yL_get cL_get 4 (some .int) [(0, 8, 11, 13)] ∈ gws := gws_at 110 (by decide +kernel) (by decide +kernel)
theorem ml_L_15 : Cond.methodLink RL 15 yX0_get ∈ gws := gws_at 111 (by decide +kernel) (by decide +kernel)
theorem im_yX0_get : Cond.instanceMethod yX0_get ∈ gws := gws_at 112 (by decide +kernel) (by decide +kernel)
theorem se_yX0_get : Cond.selects RX0 yX0_get yX0_get ∈ gws := gws_at 113 (by decide +kernel) (by decide +kernel)
theorem cd_yX0_get : Cond.code yX0_get cX0_get 2 (some .long) ∈ gws := gws_at 114 (by decide +kernel) (by decide +kernel)
theorem ml_L_61 : Cond.methodLink RL 61 yL_reckon ∈ gws := gws_at 115 (by decide +kernel) (by decide +kernel)
theorem st_yL_reckon : Cond.static yL_reckon ∈ gws := gws_at 116 (by decide +kernel) (by decide +kernel)
theorem cd_yL_reckon : Cond.codeWith yL_reckon cL_reckon 7 (some .int) [(0, 13, 16, 13), (0, 13, 20, 23), (0, 13, 24, 25)] ∈ gws := gws_at 117 (by decide +kernel) (by decide +kernel)
theorem cl_L_23 : Cond.classLink RL 23 "java/lang/UnsupportedOperationException" ∈ gws := gws_at 118 (by decide +kernel) (by decide +kernel)
theorem cl_L_25 : Cond.classLink RL 25 "java/lang/ArithmeticException" ∈ gws := gws_at 119 (by decide +kernel) (by decide +kernel)
theorem ml_L_19 : Cond.methodLink RL 19 yX0_reckon ∈ gws := gws_at 120 (by decide +kernel) (by decide +kernel)
theorem im_yX0_reckon : Cond.instanceMethod yX0_reckon ∈ gws := gws_at 121 (by decide +kernel) (by decide +kernel)
theorem se_yX0_reckon : Cond.selects RX0 yX0_reckon yX0_reckon ∈ gws := gws_at 122 (by decide +kernel) (by decide +kernel)
theorem cd_yX0_reckon : Cond.code yX0_reckon cX0_reckon 7 (some .long) ∈ gws := gws_at 123 (by decide +kernel) (by decide +kernel)
theorem ml_X0_24 : Cond.methodLink RX0 24 yX0_reckoned ∈ gws := gws_at 124 (by decide +kernel) (by decide +kernel)
theorem st_yX0_reckoned : Cond.static yX0_reckoned ∈ gws := gws_at 125 (by decide +kernel) (by decide +kernel)
theorem cd_yX0_reckoned : Cond.code yX0_reckoned cX0_reckoned 5 (some .long) ∈ gws := gws_at 126 (by decide +kernel) (by decide +kernel)
theorem cl_X0_54 : Cond.classLink RX0 54 "java/lang/UnsupportedOperationException" ∈ gws := gws_at 127 (by decide +kernel) (by decide +kernel)
theorem ml_X0_57 : Cond.methodLink RX0 57 yX0_product ∈ gws := gws_at 142 (by decide +kernel) (by decide +kernel)
theorem st_yX0_product : Cond.static yX0_product ∈ gws := gws_at 143 (by decide +kernel) (by decide +kernel)
theorem cd_yX0_product : Cond.code yX0_product cX0_product 6 (some .long) ∈ gws := gws_at 144 (by decide +kernel) (by decide +kernel)
theorem ml_X0_72 : Cond.methodLink RX0 72 yJ9_abs_067f4 ∈ gws := gws_at 145 (by decide +kernel) (by decide +kernel)
theorem st_yJ9_abs_067f4 : Cond.static yJ9_abs_067f4 ∈ gws := gws_at 146 (by decide +kernel) (by decide +kernel)
theorem cd_yJ9_abs_067f4 : Cond.code yJ9_abs_067f4 cJ9_abs_067f4 2 (some .long) ∈ gws := gws_at 147 (by decide +kernel) (by decide +kernel)
theorem ml_X0_75 : Cond.methodLink RX0 75 yX0_productOfSizes ∈ gws := gws_at 148 (by decide +kernel) (by decide +kernel)
theorem st_yX0_productOfSizes : Cond.static yX0_productOfSizes ∈ gws := gws_at 149 (by decide +kernel) (by decide +kernel)
theorem cd_yX0_productOfSizes : Cond.code yX0_productOfSizes cX0_productOfSizes 6 (some .long) ∈ gws := gws_at 150 (by decide +kernel) (by decide +kernel)
theorem kl_X0_60 : Cond.constantLong RX0 60 (10000) ∈ gws := gws_at 151 (by decide +kernel) (by decide +kernel)
theorem cl_X0_51 : Cond.classLink RX0 51 "java/lang/ArithmeticException" ∈ gws := gws_at 152 (by decide +kernel) (by decide +kernel)
theorem ml_X0_39 : Cond.methodLink RX0 39 yX0_roundedQuotient ∈ gws := gws_at 167 (by decide +kernel) (by decide +kernel)
theorem st_yX0_roundedQuotient : Cond.static yX0_roundedQuotient ∈ gws := gws_at 168 (by decide +kernel) (by decide +kernel)
theorem cd_yX0_roundedQuotient : Cond.code yX0_roundedQuotient cX0_roundedQuotient 12 (some .long) ∈ gws := gws_at 169 (by decide +kernel) (by decide +kernel)
theorem ml_X0_62 : Cond.methodLink RX0 62 yJ9_floorMod_f86c9 ∈ gws := gws_at 170 (by decide +kernel) (by decide +kernel)
theorem st_yJ9_floorMod_f86c9 : Cond.static yJ9_floorMod_f86c9 ∈ gws := gws_at 171 (by decide +kernel) (by decide +kernel)
theorem cd_yJ9_floorMod_f86c9 : Cond.code yJ9_floorMod_f86c9 cJ9_floorMod_f86c9 6 (some .long) ∈ gws := gws_at 172 (by decide +kernel) (by decide +kernel)
theorem ml_X0_28 : Cond.methodLink RX0 28 yX0_limited ∈ gws := gws_at 173 (by decide +kernel) (by decide +kernel)
theorem st_yX0_limited : Cond.static yX0_limited ∈ gws := gws_at 174 (by decide +kernel) (by decide +kernel)
theorem cd_yX0_limited : Cond.code yX0_limited cX0_limited 2 (some .long) ∈ gws := gws_at 175 (by decide +kernel) (by decide +kernel)
theorem ml_L_65 : Cond.methodLink RL 65 yL_turn ∈ gws := gws_at 176 (by decide +kernel) (by decide +kernel)
theorem st_yL_turn : Cond.static yL_turn ∈ gws := gws_at 177 (by decide +kernel) (by decide +kernel)
theorem cd_yL_turn : Cond.codeWith yL_turn cL_turn 6 (some .int) [(0, 11, 14, 13), (0, 11, 18, 25)] ∈ gws := gws_at 178 (by decide +kernel) (by decide +kernel)
theorem ml_L_27 : Cond.methodLink RL 27 yX0_turn ∈ gws := gws_at 179 (by decide +kernel) (by decide +kernel)
theorem im_yX0_turn : Cond.instanceMethod yX0_turn ∈ gws := gws_at 180 (by decide +kernel) (by decide +kernel)
theorem se_yX0_turn : Cond.selects RX0 yX0_turn yX0_turn ∈ gws := gws_at 181 (by decide +kernel) (by decide +kernel)
theorem cd_yX0_turn : Cond.code yX0_turn cX0_turn 6 (some .long) ∈ gws := gws_at 182 (by decide +kernel) (by decide +kernel)
theorem ml_X0_32 : Cond.methodLink RX0 32 yX0_turned ∈ gws := gws_at 183 (by decide +kernel) (by decide +kernel)
theorem st_yX0_turned : Cond.static yX0_turned ∈ gws := gws_at 184 (by decide +kernel) (by decide +kernel)
theorem cd_yX0_turned : Cond.code yX0_turned cX0_turned 3 (some .long) ∈ gws := gws_at 185 (by decide +kernel) (by decide +kernel)
theorem kl_X0_67 : Cond.constantLong RX0 67 (100) ∈ gws := gws_at 186 (by decide +kernel) (by decide +kernel)
theorem ml_X0_69 : Cond.methodLink RX0 69 yJ9_floorDiv_f86c9 ∈ gws := gws_at 187 (by decide +kernel) (by decide +kernel)
theorem st_yJ9_floorDiv_f86c9 : Cond.static yJ9_floorDiv_f86c9 ∈ gws := gws_at 188 (by decide +kernel) (by decide +kernel)
theorem cd_yJ9_floorDiv_f86c9 : Cond.code yJ9_floorDiv_f86c9 cJ9_floorDiv_f86c9 6 (some .long) ∈ gws := gws_at 189 (by decide +kernel) (by decide +kernel)
theorem ml_L_69 : Cond.methodLink RL 69 yL_round ∈ gws := gws_at 190 (by decide +kernel) (by decide +kernel)
theorem st_yL_round : Cond.static yL_round ∈ gws := gws_at 191 (by decide +kernel) (by decide +kernel)
theorem cd_yL_round : Cond.codeWith yL_round cL_round 6 (some .int) [(0, 11, 14, 13), (0, 11, 18, 25)] ∈ gws := gws_at 192 (by decide +kernel) (by decide +kernel)
theorem ml_L_31 : Cond.methodLink RL 31 yX0_round ∈ gws := gws_at 193 (by decide +kernel) (by decide +kernel)
theorem im_yX0_round : Cond.instanceMethod yX0_round ∈ gws := gws_at 194 (by decide +kernel) (by decide +kernel)
theorem se_yX0_round : Cond.selects RX0 yX0_round yX0_round ∈ gws := gws_at 195 (by decide +kernel) (by decide +kernel)
theorem cd_yX0_round : Cond.code yX0_round cX0_round 8 (some .long) ∈ gws := gws_at 196 (by decide +kernel) (by decide +kernel)
theorem fl_X0_36 : Cond.fieldLink RX0 36 "TenThousandthDesk" "POWERS_OF_TEN" "[J" ∈ gws := gws_at 197 (by decide +kernel) (by decide +kernel)
theorem ml_L_72 : Cond.methodLink RL 72 yL_print ∈ gws := gws_at 199 (by decide +kernel) (by decide +kernel)
theorem st_yL_print : Cond.static yL_print ∈ gws := gws_at 200 (by decide +kernel) (by decide +kernel)
theorem cd_yL_print : Cond.codeWith yL_print cL_print 5 (some .int) [(0, 10, 13, 13)] ∈ gws := gws_at 201 (by decide +kernel) (by decide +kernel)
theorem ml_L_34 : Cond.methodLink RL 34 yX0_print ∈ gws := gws_at 202 (by decide +kernel) (by decide +kernel)
theorem im_yX0_print : Cond.instanceMethod yX0_print ∈ gws := gws_at 203 (by decide +kernel) (by decide +kernel)
theorem se_yX0_print : Cond.selects RX0 yX0_print yX0_print ∈ gws := gws_at 204 (by decide +kernel) (by decide +kernel)
theorem cd_yX0_print : Cond.code yX0_print cX0_print 5 (some .int) ∈ gws := gws_at 205 (by decide +kernel) (by decide +kernel)
theorem ml_X0_43 : Cond.methodLink RX0 43 yX0_printedByte ∈ gws := gws_at 206 (by decide +kernel) (by decide +kernel)
theorem st_yX0_printedByte : Cond.static yX0_printedByte ∈ gws := gws_at 207 (by decide +kernel) (by decide +kernel)
theorem cd_yX0_printedByte : Cond.code yX0_printedByte cX0_printedByte 6 (some .int) ∈ gws := gws_at 208 (by decide +kernel) (by decide +kernel)
theorem ml_X0_78 : Cond.methodLink RX0 78 yX0_wholeDigits ∈ gws := gws_at 209 (by decide +kernel) (by decide +kernel)
theorem st_yX0_wholeDigits : Cond.static yX0_wholeDigits ∈ gws := gws_at 210 (by decide +kernel) (by decide +kernel)
theorem cd_yX0_wholeDigits : Cond.code yX0_wholeDigits cX0_wholeDigits 3 (some .int) ∈ gws := gws_at 211 (by decide +kernel) (by decide +kernel)
theorem ml_X0_82 : Cond.methodLink RX0 82 yX0_digit ∈ gws := gws_at 212 (by decide +kernel) (by decide +kernel)
theorem st_yX0_digit : Cond.static yX0_digit ∈ gws := gws_at 213 (by decide +kernel) (by decide +kernel)
theorem cd_yX0_digit : Cond.code yX0_digit cX0_digit 3 (some .int) ∈ gws := gws_at 214 (by decide +kernel) (by decide +kernel)
theorem kl_X0_88 : Cond.constantLong RX0 88 (10) ∈ gws := gws_at 215 (by decide +kernel) (by decide +kernel)
theorem ml_X0_85 : Cond.methodLink RX0 85 yX0_byteBehindWhole ∈ gws := gws_at 216 (by decide +kernel) (by decide +kernel)
theorem st_yX0_byteBehindWhole : Cond.static yX0_byteBehindWhole ∈ gws := gws_at 217 (by decide +kernel) (by decide +kernel)
theorem cd_yX0_byteBehindWhole : Cond.code yX0_byteBehindWhole cX0_byteBehindWhole 5 (some .int) ∈ gws := gws_at 218 (by decide +kernel) (by decide +kernel)
theorem ml_L_76 : Cond.methodLink RL 76 yL_average ∈ gws := gws_at 219 (by decide +kernel) (by decide +kernel)
theorem st_yL_average : Cond.static yL_average ∈ gws := gws_at 220 (by decide +kernel) (by decide +kernel)
theorem cd_yL_average : Cond.codeWith yL_average cL_average 4 (some .int) [(0, 8, 11, 13), (0, 8, 14, 25)] ∈ gws := gws_at 221 (by decide +kernel) (by decide +kernel)
theorem ml_L_38 : Cond.methodLink RL 38 yX0_average ∈ gws := gws_at 222 (by decide +kernel) (by decide +kernel)
theorem im_yX0_average : Cond.instanceMethod yX0_average ∈ gws := gws_at 223 (by decide +kernel) (by decide +kernel)
theorem se_yX0_average : Cond.selects RX0 yX0_average yX0_average ∈ gws := gws_at 224 (by decide +kernel) (by decide +kernel)
theorem cd_yX0_average : Cond.code yX0_average cX0_average 5 (some .long) ∈ gws := gws_at 225 (by decide +kernel) (by decide +kernel)
theorem cl_L_42 : Cond.classLink RL 42 RX1 ∈ gws := gws_at 226 (by decide +kernel) (by decide +kernel)
theorem nt_X1 : Cond.instantiable RX1 3 ∈ gws := gws_at 227 (by decide +kernel) (by decide +kernel)
theorem ml_L_44 : Cond.methodLink RL 44 yX1_init ∈ gws := gws_at 228 (by decide +kernel) (by decide +kernel)
theorem im_yX1_init : Cond.instanceMethod yX1_init ∈ gws := gws_at 229 (by decide +kernel) (by decide +kernel)
theorem cd_yX1_init : Cond.code yX1_init cX1_init 1 none ∈ gws := gws_at 230 (by decide +kernel) (by decide +kernel)
theorem ml_X1_1 : Cond.methodLink RX1 1 objectInit ∈ gws := gws_at 231 (by decide +kernel) (by decide +kernel)
theorem fl_X1_17 : Cond.fieldLink RX1 17 "TenThousandthDeskModel" "failed" "I" ∈ gws := gws_at 232 (by decide +kernel) (by decide +kernel)
theorem fl_X1_7 : Cond.fieldLink RX1 7 "TenThousandthDeskModel" "registers" "[J" ∈ gws := gws_at 233 (by decide +kernel) (by decide +kernel)
theorem fl_X1_13 : Cond.fieldLink RX1 13 "TenThousandthDeskModel" "printed" "[I" ∈ gws := gws_at 234 (by decide +kernel) (by decide +kernel)
theorem ac_int : Cond.arrayClass .int ∈ gws := gws_at 242 (by decide +kernel) (by decide +kernel)
theorem ml_L_53 : Cond.methodLink RL 53 yX1_thrown ∈ gws := gws_at 243 (by decide +kernel) (by decide +kernel)
theorem im_yX1_thrown : Cond.instanceMethod yX1_thrown ∈ gws := gws_at 244 (by decide +kernel) (by decide +kernel)
theorem se_yX1_thrown : Cond.selects RX1 yX1_thrown yX1_thrown ∈ gws := gws_at 245 (by decide +kernel) (by decide +kernel)
theorem cd_yX1_thrown : Cond.code yX1_thrown cX1_thrown 1 (some .int) ∈ gws := gws_at 246 (by decide +kernel) (by decide +kernel)
theorem ml_L_52 : Cond.methodLink RL 52 yX1_set ∈ gws := gws_at 247 (by decide +kernel) (by decide +kernel)
theorem im_yX1_set : Cond.instanceMethod yX1_set ∈ gws := gws_at 248 (by decide +kernel) (by decide +kernel)
theorem se_yX1_set : Cond.selects RX1 yX1_set yX1_set ∈ gws := gws_at 249 (by decide +kernel) (by decide +kernel)
theorem cd_yX1_set : Cond.code yX1_set cX1_set 6 (some .long) ∈ gws := gws_at 250 (by decide +kernel) (by decide +kernel)
theorem ml_X1_21 : Cond.methodLink RX1 21 yX1_out ∈ gws := gws_at 251 (by decide +kernel) (by decide +kernel)
theorem im_yX1_out : Cond.instanceMethod yX1_out ∈ gws := gws_at 253 (by decide +kernel) (by decide +kernel)
theorem cd_yX1_out : Cond.code yX1_out cX1_out 2 (some .boolean) ∈ gws := gws_at 254 (by decide +kernel) (by decide +kernel)
theorem kl_X1_25 : Cond.constantLong RX1 25 (-900000000000000) ∈ gws := gws_at 255 (by decide +kernel) (by decide +kernel)
theorem kl_X1_27 : Cond.constantLong RX1 27 (900000000000000) ∈ gws := gws_at 256 (by decide +kernel) (by decide +kernel)
theorem ml_X1_29 : Cond.methodLink RX1 29 yX1_fail ∈ gws := gws_at 257 (by decide +kernel) (by decide +kernel)
theorem im_yX1_fail : Cond.instanceMethod yX1_fail ∈ gws := gws_at 259 (by decide +kernel) (by decide +kernel)
theorem cd_yX1_fail : Cond.code yX1_fail cX1_fail 2 (some .int) ∈ gws := gws_at 260 (by decide +kernel) (by decide +kernel)
theorem ml_L_60 : Cond.methodLink RL 60 yX1_get ∈ gws := gws_at 261 (by decide +kernel) (by decide +kernel)
theorem im_yX1_get : Cond.instanceMethod yX1_get ∈ gws := gws_at 262 (by decide +kernel) (by decide +kernel)
theorem se_yX1_get : Cond.selects RX1 yX1_get yX1_get ∈ gws := gws_at 263 (by decide +kernel) (by decide +kernel)
theorem cd_yX1_get : Cond.code yX1_get cX1_get 2 (some .long) ∈ gws := gws_at 264 (by decide +kernel) (by decide +kernel)
theorem ml_L_64 : Cond.methodLink RL 64 yX1_reckon ∈ gws := gws_at 265 (by decide +kernel) (by decide +kernel)
theorem im_yX1_reckon : Cond.instanceMethod yX1_reckon ∈ gws := gws_at 266 (by decide +kernel) (by decide +kernel)
theorem se_yX1_reckon : Cond.selects RX1 yX1_reckon yX1_reckon ∈ gws := gws_at 267 (by decide +kernel) (by decide +kernel)
theorem cd_yX1_reckon : Cond.code yX1_reckon cX1_reckon 12 (some .long) ∈ gws := gws_at 268 (by decide +kernel) (by decide +kernel)
theorem ml_X1_39 : Cond.methodLink RX1 39 yX1_size ∈ gws := gws_at 269 (by decide +kernel) (by decide +kernel)
theorem st_yX1_size : Cond.static yX1_size ∈ gws := gws_at 270 (by decide +kernel) (by decide +kernel)
theorem cd_yX1_size : Cond.code yX1_size cX1_size 2 (some .long) ∈ gws := gws_at 271 (by decide +kernel) (by decide +kernel)
theorem ml_X1_43 : Cond.methodLink RX1 43 yX1_put ∈ gws := gws_at 272 (by decide +kernel) (by decide +kernel)
theorem im_yX1_put : Cond.instanceMethod yX1_put ∈ gws := gws_at 274 (by decide +kernel) (by decide +kernel)
theorem cd_yX1_put : Cond.code yX1_put cX1_put 6 (some .long) ∈ gws := gws_at 275 (by decide +kernel) (by decide +kernel)
theorem ml_X1_47 : Cond.methodLink RX1 47 yX1_product ∈ gws := gws_at 276 (by decide +kernel) (by decide +kernel)
theorem im_yX1_product : Cond.instanceMethod yX1_product ∈ gws := gws_at 278 (by decide +kernel) (by decide +kernel)
theorem cd_yX1_product : Cond.code yX1_product cX1_product 7 (some .long) ∈ gws := gws_at 279 (by decide +kernel) (by decide +kernel)
theorem kl_X1_33 : Cond.constantLong RX1 33 (10000) ∈ gws := gws_at 280 (by decide +kernel) (by decide +kernel)
theorem kl_X1_35 : Cond.constantLong RX1 35 (900000000000001) ∈ gws := gws_at 281 (by decide +kernel) (by decide +kernel)
theorem kl_X1_37 : Cond.constantLong RX1 37 (5000) ∈ gws := gws_at 282 (by decide +kernel) (by decide +kernel)
theorem ml_X1_51 : Cond.methodLink RX1 51 yX1_quotient ∈ gws := gws_at 283 (by decide +kernel) (by decide +kernel)
theorem im_yX1_quotient : Cond.instanceMethod yX1_quotient ∈ gws := gws_at 285 (by decide +kernel) (by decide +kernel)
theorem cd_yX1_quotient : Cond.code yX1_quotient cX1_quotient 9 (some .long) ∈ gws := gws_at 286 (by decide +kernel) (by decide +kernel)
theorem ml_L_68 : Cond.methodLink RL 68 yX1_turn ∈ gws := gws_at 287 (by decide +kernel) (by decide +kernel)
theorem im_yX1_turn : Cond.instanceMethod yX1_turn ∈ gws := gws_at 288 (by decide +kernel) (by decide +kernel)
theorem se_yX1_turn : Cond.selects RX1 yX1_turn yX1_turn ∈ gws := gws_at 289 (by decide +kernel) (by decide +kernel)
theorem cd_yX1_turn : Cond.code yX1_turn cX1_turn 8 (some .long) ∈ gws := gws_at 290 (by decide +kernel) (by decide +kernel)
theorem kl_X1_54 : Cond.constantLong RX1 54 (50) ∈ gws := gws_at 291 (by decide +kernel) (by decide +kernel)
theorem kl_X1_56 : Cond.constantLong RX1 56 (100) ∈ gws := gws_at 292 (by decide +kernel) (by decide +kernel)
theorem ml_L_71 : Cond.methodLink RL 71 yX1_round ∈ gws := gws_at 293 (by decide +kernel) (by decide +kernel)
theorem im_yX1_round : Cond.instanceMethod yX1_round ∈ gws := gws_at 294 (by decide +kernel) (by decide +kernel)
theorem se_yX1_round : Cond.selects RX1 yX1_round yX1_round ∈ gws := gws_at 295 (by decide +kernel) (by decide +kernel)
theorem cd_yX1_round : Cond.code yX1_round cX1_round 12 (some .long) ∈ gws := gws_at 296 (by decide +kernel) (by decide +kernel)
theorem kl_X1_58 : Cond.constantLong RX1 58 (10) ∈ gws := gws_at 297 (by decide +kernel) (by decide +kernel)
theorem ml_L_75 : Cond.methodLink RL 75 yX1_print ∈ gws := gws_at 298 (by decide +kernel) (by decide +kernel)
theorem im_yX1_print : Cond.instanceMethod yX1_print ∈ gws := gws_at 299 (by decide +kernel) (by decide +kernel)
theorem se_yX1_print : Cond.selects RX1 yX1_print yX1_print ∈ gws := gws_at 300 (by decide +kernel) (by decide +kernel)
theorem cd_yX1_print : Cond.code yX1_print cX1_print 12 (some .int) ∈ gws := gws_at 301 (by decide +kernel) (by decide +kernel)
theorem kl_X1_60 : Cond.constantLong RX1 60 (9) ∈ gws := gws_at 302 (by decide +kernel) (by decide +kernel)
theorem kl_X1_62 : Cond.constantLong RX1 62 (48) ∈ gws := gws_at 303 (by decide +kernel) (by decide +kernel)
theorem kl_X1_64 : Cond.constantLong RX1 64 (1000) ∈ gws := gws_at 304 (by decide +kernel) (by decide +kernel)
theorem ml_L_78 : Cond.methodLink RL 78 yX1_average ∈ gws := gws_at 305 (by decide +kernel) (by decide +kernel)
theorem im_yX1_average : Cond.instanceMethod yX1_average ∈ gws := gws_at 306 (by decide +kernel) (by decide +kernel)
theorem se_yX1_average : Cond.selects RX1 yX1_average yX1_average ∈ gws := gws_at 307 (by decide +kernel) (by decide +kernel)
theorem cd_yX1_average : Cond.code yX1_average cX1_average 6 (some .long) ∈ gws := gws_at 308 (by decide +kernel) (by decide +kernel)
theorem kl_L_45 : Cond.constantLong RL 45 (4294967295) ∈ gws := gws_at 309 (by decide +kernel) (by decide +kernel)
set_option maxRecDepth 20000 in
theorem inX0g : ∀ w ∈ wsX00, w ∈ gws := by decide +kernel
set_option maxRecDepth 20000 in
theorem inX1g : ∀ w ∈ wsX10, w ∈ gws := by decide +kernel
end
section
theorem hd_yX0_init : yX0_init.cls ≠ "java/lang/invoke/MethodHandle" ∧ yX0_init.cls ≠ "java/lang/invoke/VarHandle" ∧ (parseMethodDescriptor yX0_init.desc).map (fun d => d.parameters.length) = some 0 := by decide +kernel
theorem hd_yX0_set : yX0_set.cls ≠ "java/lang/invoke/MethodHandle" ∧ yX0_set.cls ≠ "java/lang/invoke/VarHandle" ∧ (parseMethodDescriptor yX0_set.desc).map (fun d => d.parameters.length) = some 2 := by decide +kernel
theorem hd_yX0_get : yX0_get.cls ≠ "java/lang/invoke/MethodHandle" ∧ yX0_get.cls ≠ "java/lang/invoke/VarHandle" ∧ (parseMethodDescriptor yX0_get.desc).map (fun d => d.parameters.length) = some 1 := by decide +kernel
theorem hd_yX0_reckon : yX0_reckon.cls ≠ "java/lang/invoke/MethodHandle" ∧ yX0_reckon.cls ≠ "java/lang/invoke/VarHandle" ∧ (parseMethodDescriptor yX0_reckon.desc).map (fun d => d.parameters.length) = some 4 := by decide +kernel
theorem hd_yX0_turn : yX0_turn.cls ≠ "java/lang/invoke/MethodHandle" ∧ yX0_turn.cls ≠ "java/lang/invoke/VarHandle" ∧ (parseMethodDescriptor yX0_turn.desc).map (fun d => d.parameters.length) = some 3 := by decide +kernel
theorem hd_yX0_round : yX0_round.cls ≠ "java/lang/invoke/MethodHandle" ∧ yX0_round.cls ≠ "java/lang/invoke/VarHandle" ∧ (parseMethodDescriptor yX0_round.desc).map (fun d => d.parameters.length) = some 3 := by decide +kernel
theorem hd_yX0_print : yX0_print.cls ≠ "java/lang/invoke/MethodHandle" ∧ yX0_print.cls ≠ "java/lang/invoke/VarHandle" ∧ (parseMethodDescriptor yX0_print.desc).map (fun d => d.parameters.length) = some 2 := by decide +kernel
theorem hd_yX0_average : yX0_average.cls ≠ "java/lang/invoke/MethodHandle" ∧ yX0_average.cls ≠ "java/lang/invoke/VarHandle" ∧ (parseMethodDescriptor yX0_average.desc).map (fun d => d.parameters.length) = some 1 := by decide +kernel
theorem hd_yX0_isRegister : yX0_isRegister.cls ≠ "java/lang/invoke/MethodHandle" ∧ yX0_isRegister.cls ≠ "java/lang/invoke/VarHandle" ∧ (parseMethodDescriptor yX0_isRegister.desc).map (fun d => d.parameters.length) = some 1 := by decide +kernel
theorem hd_yX0_isNumber : yX0_isNumber.cls ≠ "java/lang/invoke/MethodHandle" ∧ yX0_isNumber.cls ≠ "java/lang/invoke/VarHandle" ∧ (parseMethodDescriptor yX0_isNumber.desc).map (fun d => d.parameters.length) = some 1 := by decide +kernel
theorem hd_yX0_limited : yX0_limited.cls ≠ "java/lang/invoke/MethodHandle" ∧ yX0_limited.cls ≠ "java/lang/invoke/VarHandle" ∧ (parseMethodDescriptor yX0_limited.desc).map (fun d => d.parameters.length) = some 1 := by decide +kernel
theorem hd_yX0_reckoned : yX0_reckoned.cls ≠ "java/lang/invoke/MethodHandle" ∧ yX0_reckoned.cls ≠ "java/lang/invoke/VarHandle" ∧ (parseMethodDescriptor yX0_reckoned.desc).map (fun d => d.parameters.length) = some 3 := by decide +kernel
theorem hd_yX0_turned : yX0_turned.cls ≠ "java/lang/invoke/MethodHandle" ∧ yX0_turned.cls ≠ "java/lang/invoke/VarHandle" ∧ (parseMethodDescriptor yX0_turned.desc).map (fun d => d.parameters.length) = some 2 := by decide +kernel
theorem hd_yX0_product : yX0_product.cls ≠ "java/lang/invoke/MethodHandle" ∧ yX0_product.cls ≠ "java/lang/invoke/VarHandle" ∧ (parseMethodDescriptor yX0_product.desc).map (fun d => d.parameters.length) = some 2 := by decide +kernel
theorem hd_yX0_productOfSizes : yX0_productOfSizes.cls ≠ "java/lang/invoke/MethodHandle" ∧ yX0_productOfSizes.cls ≠ "java/lang/invoke/VarHandle" ∧ (parseMethodDescriptor yX0_productOfSizes.desc).map (fun d => d.parameters.length) = some 2 := by decide +kernel
theorem hd_yX0_roundedQuotient : yX0_roundedQuotient.cls ≠ "java/lang/invoke/MethodHandle" ∧ yX0_roundedQuotient.cls ≠ "java/lang/invoke/VarHandle" ∧ (parseMethodDescriptor yX0_roundedQuotient.desc).map (fun d => d.parameters.length) = some 2 := by decide +kernel
theorem hd_yX0_printedByte : yX0_printedByte.cls ≠ "java/lang/invoke/MethodHandle" ∧ yX0_printedByte.cls ≠ "java/lang/invoke/VarHandle" ∧ (parseMethodDescriptor yX0_printedByte.desc).map (fun d => d.parameters.length) = some 2 := by decide +kernel
theorem hd_yX0_byteBehindWhole : yX0_byteBehindWhole.cls ≠ "java/lang/invoke/MethodHandle" ∧ yX0_byteBehindWhole.cls ≠ "java/lang/invoke/VarHandle" ∧ (parseMethodDescriptor yX0_byteBehindWhole.desc).map (fun d => d.parameters.length) = some 2 := by decide +kernel
theorem hd_yX0_wholeDigits : yX0_wholeDigits.cls ≠ "java/lang/invoke/MethodHandle" ∧ yX0_wholeDigits.cls ≠ "java/lang/invoke/VarHandle" ∧ (parseMethodDescriptor yX0_wholeDigits.desc).map (fun d => d.parameters.length) = some 1 := by decide +kernel
theorem hd_yX0_digit : yX0_digit.cls ≠ "java/lang/invoke/MethodHandle" ∧ yX0_digit.cls ≠ "java/lang/invoke/VarHandle" ∧ (parseMethodDescriptor yX0_digit.desc).map (fun d => d.parameters.length) = some 2 := by decide +kernel
theorem hd_yX1_init : yX1_init.cls ≠ "java/lang/invoke/MethodHandle" ∧ yX1_init.cls ≠ "java/lang/invoke/VarHandle" ∧ (parseMethodDescriptor yX1_init.desc).map (fun d => d.parameters.length) = some 0 := by decide +kernel
theorem hd_yJ9_floorDiv_f86c9 : yJ9_floorDiv_f86c9.cls ≠ "java/lang/invoke/MethodHandle" ∧ yJ9_floorDiv_f86c9.cls ≠ "java/lang/invoke/VarHandle" ∧ (parseMethodDescriptor yJ9_floorDiv_f86c9.desc).map (fun d => d.parameters.length) = some 2 := by decide +kernel
theorem hd_yJ9_floorMod_f86c9 : yJ9_floorMod_f86c9.cls ≠ "java/lang/invoke/MethodHandle" ∧ yJ9_floorMod_f86c9.cls ≠ "java/lang/invoke/VarHandle" ∧ (parseMethodDescriptor yJ9_floorMod_f86c9.desc).map (fun d => d.parameters.length) = some 2 := by decide +kernel
theorem hd_yJ9_abs_067f4 : yJ9_abs_067f4.cls ≠ "java/lang/invoke/MethodHandle" ∧ yJ9_abs_067f4.cls ≠ "java/lang/invoke/VarHandle" ∧ (parseMethodDescriptor yJ9_abs_067f4.desc).map (fun d => d.parameters.length) = some 1 := by decide +kernel
theorem hd_yL_set : yL_set.cls ≠ "java/lang/invoke/MethodHandle" ∧ yL_set.cls ≠ "java/lang/invoke/VarHandle" ∧ (parseMethodDescriptor yL_set.desc).map (fun d => d.parameters.length) = some 4 := by decide +kernel
theorem hd_yL_get : yL_get.cls ≠ "java/lang/invoke/MethodHandle" ∧ yL_get.cls ≠ "java/lang/invoke/VarHandle" ∧ (parseMethodDescriptor yL_get.desc).map (fun d => d.parameters.length) = some 3 := by decide +kernel
theorem hd_yL_reckon : yL_reckon.cls ≠ "java/lang/invoke/MethodHandle" ∧ yL_reckon.cls ≠ "java/lang/invoke/VarHandle" ∧ (parseMethodDescriptor yL_reckon.desc).map (fun d => d.parameters.length) = some 6 := by decide +kernel
theorem hd_yL_turn : yL_turn.cls ≠ "java/lang/invoke/MethodHandle" ∧ yL_turn.cls ≠ "java/lang/invoke/VarHandle" ∧ (parseMethodDescriptor yL_turn.desc).map (fun d => d.parameters.length) = some 5 := by decide +kernel
theorem hd_yL_round : yL_round.cls ≠ "java/lang/invoke/MethodHandle" ∧ yL_round.cls ≠ "java/lang/invoke/VarHandle" ∧ (parseMethodDescriptor yL_round.desc).map (fun d => d.parameters.length) = some 5 := by decide +kernel
theorem hd_yL_print : yL_print.cls ≠ "java/lang/invoke/MethodHandle" ∧ yL_print.cls ≠ "java/lang/invoke/VarHandle" ∧ (parseMethodDescriptor yL_print.desc).map (fun d => d.parameters.length) = some 4 := by decide +kernel
theorem hd_yL_average : yL_average.cls ≠ "java/lang/invoke/MethodHandle" ∧ yL_average.cls ≠ "java/lang/invoke/VarHandle" ∧ (parseMethodDescriptor yL_average.desc).map (fun d => d.parameters.length) = some 3 := by decide +kernel
theorem hd_yL_law : yL_law.cls ≠ "java/lang/invoke/MethodHandle" ∧ yL_law.cls ≠ "java/lang/invoke/VarHandle" ∧ (parseMethodDescriptor yL_law.desc).map (fun d => d.parameters.length) = some 1 := by decide +kernel
theorem hd_yX1_thrown : yX1_thrown.cls ≠ "java/lang/invoke/MethodHandle" ∧ yX1_thrown.cls ≠ "java/lang/invoke/VarHandle" ∧ (parseMethodDescriptor yX1_thrown.desc).map (fun d => d.parameters.length) = some 0 := by decide +kernel
theorem hd_yX1_fail : yX1_fail.cls ≠ "java/lang/invoke/MethodHandle" ∧ yX1_fail.cls ≠ "java/lang/invoke/VarHandle" ∧ (parseMethodDescriptor yX1_fail.desc).map (fun d => d.parameters.length) = some 1 := by decide +kernel
theorem hd_yX1_out : yX1_out.cls ≠ "java/lang/invoke/MethodHandle" ∧ yX1_out.cls ≠ "java/lang/invoke/VarHandle" ∧ (parseMethodDescriptor yX1_out.desc).map (fun d => d.parameters.length) = some 1 := by decide +kernel
theorem hd_yX1_size : yX1_size.cls ≠ "java/lang/invoke/MethodHandle" ∧ yX1_size.cls ≠ "java/lang/invoke/VarHandle" ∧ (parseMethodDescriptor yX1_size.desc).map (fun d => d.parameters.length) = some 1 := by decide +kernel
theorem hd_yX1_set : yX1_set.cls ≠ "java/lang/invoke/MethodHandle" ∧ yX1_set.cls ≠ "java/lang/invoke/VarHandle" ∧ (parseMethodDescriptor yX1_set.desc).map (fun d => d.parameters.length) = some 2 := by decide +kernel
theorem hd_yX1_get : yX1_get.cls ≠ "java/lang/invoke/MethodHandle" ∧ yX1_get.cls ≠ "java/lang/invoke/VarHandle" ∧ (parseMethodDescriptor yX1_get.desc).map (fun d => d.parameters.length) = some 1 := by decide +kernel
theorem hd_yX1_put : yX1_put.cls ≠ "java/lang/invoke/MethodHandle" ∧ yX1_put.cls ≠ "java/lang/invoke/VarHandle" ∧ (parseMethodDescriptor yX1_put.desc).map (fun d => d.parameters.length) = some 4 := by decide +kernel
theorem hd_yX1_product : yX1_product.cls ≠ "java/lang/invoke/MethodHandle" ∧ yX1_product.cls ≠ "java/lang/invoke/VarHandle" ∧ (parseMethodDescriptor yX1_product.desc).map (fun d => d.parameters.length) = some 2 := by decide +kernel
theorem hd_yX1_quotient : yX1_quotient.cls ≠ "java/lang/invoke/MethodHandle" ∧ yX1_quotient.cls ≠ "java/lang/invoke/VarHandle" ∧ (parseMethodDescriptor yX1_quotient.desc).map (fun d => d.parameters.length) = some 2 := by decide +kernel
theorem hd_yX1_reckon : yX1_reckon.cls ≠ "java/lang/invoke/MethodHandle" ∧ yX1_reckon.cls ≠ "java/lang/invoke/VarHandle" ∧ (parseMethodDescriptor yX1_reckon.desc).map (fun d => d.parameters.length) = some 4 := by decide +kernel
theorem hd_yX1_turn : yX1_turn.cls ≠ "java/lang/invoke/MethodHandle" ∧ yX1_turn.cls ≠ "java/lang/invoke/VarHandle" ∧ (parseMethodDescriptor yX1_turn.desc).map (fun d => d.parameters.length) = some 3 := by decide +kernel
theorem hd_yX1_round : yX1_round.cls ≠ "java/lang/invoke/MethodHandle" ∧ yX1_round.cls ≠ "java/lang/invoke/VarHandle" ∧ (parseMethodDescriptor yX1_round.desc).map (fun d => d.parameters.length) = some 3 := by decide +kernel
theorem hd_yX1_print : yX1_print.cls ≠ "java/lang/invoke/MethodHandle" ∧ yX1_print.cls ≠ "java/lang/invoke/VarHandle" ∧ (parseMethodDescriptor yX1_print.desc).map (fun d => d.parameters.length) = some 2 := by decide +kernel
theorem hd_yX1_average : yX1_average.cls ≠ "java/lang/invoke/MethodHandle" ∧ yX1_average.cls ≠ "java/lang/invoke/VarHandle" ∧ (parseMethodDescriptor yX1_average.desc).map (fun d => d.parameters.length) = some 1 := by decide +kernel
end
section
/-! ===== what every method of the system leans on, and its calls ===== -/
/-- the powers of ten that the class's table holds -/
def gP (j : Nat) : Int64 := lN (10 ^ j)
def gIAE : String := "java/lang/IllegalArgumentException"
def gUOE : String := "java/lang/UnsupportedOperationException"
def gAE : String := "java/lang/ArithmeticException"
def gUp : List String := ["java/lang/RuntimeException", "java/lang/Exception"]
/-- the table words of a throw that a call does not hand on by itself -/
def gNs : List Cond := [.castable "java/lang/IllegalArgumentException" "java/lang/IllegalArgumentException", .castable "java/lang/UnsupportedOperationException" "java/lang/UnsupportedOperationException", .castable "java/lang/ArithmeticException" "java/lang/ArithmeticException", .declares ⟨"java/lang/RuntimeException", "<init>", "()V"⟩, .declares ⟨"java/lang/Exception", "<init>", "()V"⟩, .declares ⟨"java/lang/Throwable", "<init>", "()V"⟩]
theorem gNs_on : ∀ w ∈ gNs, w.onTables = true := by decide +kernel
theorem gNs_warm {s U : State} (hW : s.WarmedH U.vm) : ∀ w ∈ gNs, va_Nw w s → va_Nw w U := by
  intro w hw h
  simp only [gNs, List.mem_cons, List.not_mem_nil, or_false] at hw
  rcases hw with rfl | rfl | rfl | rfl | rfl | rfl
  · exact va_Nw.warmC hW h
  · exact va_Nw.warmC hW h
  · exact va_Nw.warmC hW h
  · exact va_Nw.warmD hW h
  · exact va_Nw.warmD hW h
  · exact va_Nw.warmD hW h
/-- the ground: words, statics of Throwable, the class's table of powers at t; none of it lies in A -/
def gE (t : Nat) (A : Nat → Prop) (U : State) (H : Heap) : Prop :=
  (∀ w ∈ gNs, va_Nw w U) ∧ (va_Nc gUOE gIAE U ∧ va_Nc gAE gIAE U ∧ va_Nc gAE gUOE U) ∧ vx_Zq Bundle.tN "UNASSIGNED_STACK" Bundle.steD A U H ∧ vx_Zq Bundle.tN "SUPPRESSED_SENTINEL" Bundle.listD A U H ∧
  va_Z RX0 "POWERS_OF_TEN" "[J" (.ref t) A U H ∧ va_T .long t 14 (fun j => .long (gP j)) A U H
theorem gE.same {t : Nat} {A : Nat → Prop} {u U : State} {H : Heap} (hvm : u.vm = U.vm) (h : gE t A u H) : gE t A U H := by
  have hal : u.vm.Alike U.vm := by rw [hvm]; exact Vm.Alike.refl _
  obtain ⟨h1, ⟨h2, h3, h4⟩, h5, h6, h7, h8⟩ := h
  exact ⟨fun w hw => va_Nw.same (gNs_on w hw) hvm (h1 w hw), ⟨h2.moved hal, h3.moved hal, h4.moved hal⟩, h5.moved hal, h6.moved hal, h7.moved hal, h8.moved hal⟩
theorem gE.warm {t : Nat} {A : Nat → Prop} {s U : State} {H : Heap} (hW : s.WarmedH U.vm) (h : gE t A s H) : gE t A U H := by
  have hal := hW.alike
  obtain ⟨h1, ⟨h2, h3, h4⟩, h5, h6, h7, h8⟩ := h
  exact ⟨fun w hw => gNs_warm hW w hw (h1 w hw), ⟨h2.moved hal, h3.moved hal, h4.moved hal⟩, h5.moved hal, h6.moved hal, h7.moved hal, h8.moved hal⟩
theorem gE.kept {t : Nat} {A : Nat → Prop} {U : State} {H H1 : Heap} (h : gE t A U H) (hq : ∀ a : Nat, a < H.size → ¬ A a → H1[a]? = H[a]?) : gE t A U H1 := by
  obtain ⟨h1, h2, h5, h6, h7, h8⟩ := h
  exact ⟨h1, h2, h5.kept hq, h6.kept hq, h7.kept hq, h8.kept hq⟩
theorem gE.narrow {t : Nat} {A B : Nat → Prop} {U : State} {H : Heap} (h : gE t A U H) (hAB : ∀ q, B q → A q) : gE t B U H := by
  obtain ⟨h1, h2, h5, h6, h7, h8⟩ := h
  exact ⟨h1, h2, h5.narrow hAB, h6.narrow hAB, h7.narrow hAB, h8.narrow hAB⟩
/-- the addresses that were not there yet -/
def gN (sz : Nat) : Nat → Prop := fun q => sz ≤ q
theorem gS_wide {A B : Nat → Prop} {H0 H : Heap} {locs : List Loc} (h : va_S A H0 H locs) (hAB : ∀ q, A q → B q) : va_S B H0 H locs := ⟨h.1, fun q h1 h2 => h.2.1 q h1 (fun z => h2 (hAB q z)), fun q hq => hAB _ (h.2.2 q hq)⟩
theorem g_keep {D : va_G} {cl : List vw_C} {ws : va_W} {H H1 : Heap} (hP : va_P D cl ws H) (hk : ∀ q : Nat, q < H.size → H1[q]? = H[q]?) : va_P D cl ws H1 := hP.kept (fun k x hx => hk x.1 (hP k x hx).lt)
theorem g_lt {q sz : Nat} (h : q < sz) : ¬ gN sz q := Nat.not_le.mpr h
/-- the words of a callee among a caller's -/
theorem gw_1 {Ts : List Cond} {d : Cond} (hs : ∀ w ∈ gws, w ∈ Ts) (hd : d ∈ gws) : GoodIn Ts (d :: gws) := by
  intro w h
  rcases List.mem_cons.mp h with rfl | h
  · exact ⟨hs _ hd, good_of_word (gws_good hd)⟩
  · exact ⟨hs _ h, good_of_word (gws_good h)⟩
theorem gw_S {Ts : List Cond} {d : Cond} {own : String} {idx : Nat} {y : MethodName} (hs : ∀ w ∈ gws, w ∈ Ts) (h1 : Cond.methodLink own idx y ∈ gws) (h2 : Cond.static y ∈ gws) (h3 : Cond.initialized y.cls ∈ gws) (hd : d ∈ gws) : GoodIn Ts (va_wsS own idx y (d :: gws)) := by
  unfold va_wsS
  exact goodIn_app (fun w h => by
    simp only [List.mem_cons, List.not_mem_nil, or_false] at h
    rcases h with rfl | rfl | rfl
    · exact ⟨hs _ h1, good_of_word (gws_good h1)⟩
    · exact ⟨hs _ h2, good_of_word (gws_good h2)⟩
    · exact ⟨hs _ h3, good_of_word (gws_good h3)⟩) (gw_1 hs hd)
theorem gw_V {Ts : List Cond} {d : Cond} {own C : String} {idx : Nat} {y : MethodName} (hs : ∀ w ∈ gws, w ∈ Ts) (h1 : Cond.methodLink own idx y ∈ gws) (h2 : Cond.instanceMethod y ∈ gws) (h3 : Cond.selects C y y ∈ gws) (h4 : Cond.initialized C ∈ gws) (hd : d ∈ gws) : GoodIn Ts (wsV own idx C y (d :: gws)) := by
  unfold wsV
  exact goodIn_app (fun w h => by
    simp only [List.mem_cons, List.not_mem_nil, or_false] at h
    rcases h with rfl | rfl | rfl | rfl
    · exact ⟨hs _ h1, good_of_word (gws_good h1)⟩
    · exact ⟨hs _ h2, good_of_word (gws_good h2)⟩
    · exact ⟨hs _ h3, good_of_word (gws_good h3)⟩
    · exact ⟨hs _ h4, good_of_word (gws_good h4)⟩) (gw_1 hs hd)
/-- a static method that touches nothing old: what it asks, what it gives -/
abbrev gPre (t sz : Nat) (As : List Value) : Array Value → State → Prop := va_Pc As (fun U => U.heap.size = sz ∧ gE t (gN sz) U U.heap)
theorem gPre_blind (t sz : Nat) (As : List Value) : FrameBlind (gPre t sz As) := fun _ U _ _ q => ⟨q.1, q.2.1, (show gE t (gN sz) _ U.heap from gE.same (u := U) rfl q.2.2)⟩
def gSl (l : Launch) (y : MethodName) (b : ByteArray) (n : Nat) (rm : Room) (t : Nat) (As : List Value) (post : Int64 → Prop) : Prop :=
  ∀ sz, Met l y (Cond.code y b n (some .long) :: gws) rm (gPre t sz As) (va_Ql (fun r (_ : Unit) => post r) (fun _ t' => t'.heap.size = sz) (gN sz)) rm.cells rm.slots (gN sz)
def gSi (l : Launch) (y : MethodName) (b : ByteArray) (n : Nat) (ty : FieldType) (rm : Room) (t : Nat) (As : List Value) (post : Int32 → Prop) : Prop :=
  ∀ sz, Met l y (Cond.code y b n (some ty) :: gws) rm (gPre t sz As) (va_Qi (fun r (_ : Unit) => post r) (fun _ t' => t'.heap.size = sz) (gN sz)) rm.cells rm.slots (gN sz)
/-- the same, and it may throw: xp of the class's name -/
abbrev gXC (xp : String → Prop) (sz : Nat) : String → State → State → Prop := vx_X (fun _ : Unit => True) (fun E _ _ => xp E) (gN sz)
def gSlX (l : Launch) (y : MethodName) (b : ByteArray) (n : Nat) (rm : Room) (t : Nat) (As : List Value) (post : Int64 → Prop) (xp : String → Prop) : Prop :=
  ∀ sz, vx_Met l y (Cond.code y b n (some .long) :: gws) rm (gPre t sz As) (va_Ql (fun r (_ : Unit) => post r) (fun _ t' => t'.heap.size = sz) (gN sz)) (gXC xp sz) rm.cells rm.slots (gN sz)
theorem g_heap {H H1 : Heap} (hz : H1.size = H.size) (hk : ∀ q : Nat, q < H.size → H1[q]? = H[q]?) : H1 = H := by
  refine Array.ext_getElem? fun q => ?_
  rcases Nat.lt_or_ge q H.size with h | h
  · exact hk q h
  · rw [Array.getElem?_eq_none h, Array.getElem?_eq_none (by omega)]
/-- a call that left the heap as it was counts for nothing -/
theorem g_back {p : Program} {l : Launch} {e : Env} {R : Room} {s : State} {m : MethodId} {args : Array Value} {below : List Frame} {meth : Method} {c : Code} {T T' : State} {locs locs' : List Loc} {cells slots cells' slots' : Nat} (X : Stand p l e R s m args below meth c T locs cells slots) (X' : Stand p l e R s m args below meth c T' locs' cells' slots') (h : T'.heap = T.heap) : Stand p l e R s m args below meth c T' locs cells slots := by
  obtain ⟨-, b2, b3, -, b5, b6⟩ := X.same
  obtain ⟨a1, -, -, a4, -, -⟩ := X'.same
  have e0 : (T.setVm s.vm).heap = (T'.setVm s.vm).heap := h.symm
  rw [e0] at b2 b3 b5 b6
  exact { X' with same := ⟨a1, b2, b3, a4, b5, b6⟩ }
section GC
variable {p : Program} {l : Launch} {e : Env} {R : Room} {s : State} {m : MethodId} {args : Array Value} {below : List Frame} {meth : Method} {c : Code} {H : Heap} {locs : List Loc} {cells slots : Nat} {Q : State → Prop}
variable {cc : ByteArray} {pc : Nat} {ls : Array Slot} {rest st0 : List Value} {A0 : Nat → Prop} {Ts : List Cond} {own : String} {nL : Nat}
variable {y : MethodName} {b : ByteArray} {n index t : Nat} {rm : Room} {As : List Value}
theorem g_pre (hE : gE t A0 s s.heap) (hS : va_S A0 s.heap H locs) (hA : ∀ q, s.heap.size ≤ q → A0 q) : PreS s H (gPre t H.size As) As :=
  ⟨gPre_blind t H.size As, fun U hU hW => ⟨rfl, by rw [hU], by rw [hU]; exact ((hE.kept hS.2.1).narrow (fun q h => hA q (Nat.le_trans hS.1 h))).warm hW⟩⟩
theorem g_free (hS : va_S A0 s.heap H locs) (hA : ∀ q, s.heap.size ≤ q → A0 q) : ∀ q, gN H.size q → A0 q := fun q h => hA q (Nat.le_trans hS.1 h)
theorem g_callSl {post : Int64 → Prop} (S : CallFix p m c cc nL s args Ts own) (hs : ∀ w ∈ gws, w ∈ Ts) (hM : gSl l y b n rm t As post)
    (h1 : Cond.methodLink own index y ∈ gws) (h2 : Cond.static y ∈ gws) (h3 : Cond.initialized y.cls ∈ gws) (h4 : Cond.code y b n (some .long) ∈ gws)
    (hd : y.cls ≠ "java/lang/invoke/MethodHandle" ∧ y.cls ≠ "java/lang/invoke/VarHandle" ∧ (parseMethodDescriptor y.desc).map (fun d => d.parameters.length) = some As.length)
    (hR : rm.frames + 1 ≤ R.frames ∧ 8 + (n + 11) + rm.locals ≤ R.locals) (hE : gE t A0 s s.heap) (hS : va_S A0 s.heap H locs) (hA : ∀ q, s.heap.size ≤ q → A0 q) (hsize : ls.size = nL)
    (hstack : st0 = As.reverse ++ rest) (hW : (rest.map fun v => v.category).sum ≤ 8) (hf : cells + rm.cells ≤ R.cells ∧ slots + rm.slots ≤ R.slots) (hdg : decode cc pc = .ok (.invokestatic index, 3))
    (kk : ∀ r : Int64, post r → W p l e R s m args below meth c H locs cells slots Q (F0 m (pc + 3) ls (.long r :: rest))) :
    W p l e R s m args below meth c H locs cells slots Q (F0 m pc ls st0) := by
  intro T hT X
  obtain ⟨v, st₀, t', T', L, h0, X', hL, e1, e2, ⟨⟨r, u, hv, hp, hb⟩, hz, hk⟩, st⟩ := (va_runS (As := As) (rest := rest) (g := F0 m pc ls st0) S (hM H.size) (va_cwS As.length S.2.2.2.2 (gw_S hs h1 h2 h3 h4) rfl rfl rfl hd hR) (g_pre hE hS hA) rfl rfl hsize hstack (lv_room hW) hdg hf) T hT X
  cases hv
  rw [h0] at hz hk
  have hh : T'.heap = H := g_heap (by rw [e1]; exact hb) (fun q hq => by rw [e1]; exact hk q hq (g_lt hq))
  obtain ⟨t2, a1, b1⟩ := kk r hp T' hh (g_back X X' (by rw [hh, hT]))
  exact ⟨t2, st t2 a1, b1⟩
theorem g_callSi {post : Int32 → Prop} {ty : FieldType} (S : CallFix p m c cc nL s args Ts own) (hs : ∀ w ∈ gws, w ∈ Ts) (hM : gSi l y b n ty rm t As post)
    (h1 : Cond.methodLink own index y ∈ gws) (h2 : Cond.static y ∈ gws) (h3 : Cond.initialized y.cls ∈ gws) (h4 : Cond.code y b n (some ty) ∈ gws)
    (hd : y.cls ≠ "java/lang/invoke/MethodHandle" ∧ y.cls ≠ "java/lang/invoke/VarHandle" ∧ (parseMethodDescriptor y.desc).map (fun d => d.parameters.length) = some As.length)
    (hR : rm.frames + 1 ≤ R.frames ∧ 8 + (n + 11) + rm.locals ≤ R.locals) (hE : gE t A0 s s.heap) (hS : va_S A0 s.heap H locs) (hA : ∀ q, s.heap.size ≤ q → A0 q) (hsize : ls.size = nL)
    (hstack : st0 = As.reverse ++ rest) (hW : (rest.map fun v => v.category).sum ≤ 8) (hf : cells + rm.cells ≤ R.cells ∧ slots + rm.slots ≤ R.slots) (hdg : decode cc pc = .ok (.invokestatic index, 3))
    (kk : ∀ r : Int32, post r → W p l e R s m args below meth c H locs cells slots Q (F0 m (pc + 3) ls (.int r :: rest))) :
    W p l e R s m args below meth c H locs cells slots Q (F0 m pc ls st0) := by
  intro T hT X
  obtain ⟨v, st₀, t', T', L, h0, X', hL, e1, e2, ⟨⟨r, u, hv, hp, hb⟩, hz, hk⟩, st⟩ := (va_runS (As := As) (rest := rest) (g := F0 m pc ls st0) S (hM H.size) (va_cwS As.length S.2.2.2.2 (gw_S hs h1 h2 h3 h4) rfl rfl rfl hd hR) (g_pre hE hS hA) rfl rfl hsize hstack (lv_room hW) hdg hf) T hT X
  cases hv
  rw [h0] at hz hk
  have hh : T'.heap = H := g_heap (by rw [e1]; exact hb) (fun q hq => by rw [e1]; exact hk q hq (g_lt hq))
  obtain ⟨t2, a1, b1⟩ := kk r hp T' hh (g_back X X' (by rw [hh, hT]))
  exact ⟨t2, st t2 a1, b1⟩
/-- a call that may throw; what is thrown goes on to the caller -/
theorem g_callSlX {post : Int64 → Prop} {xp : String → Prop} {Qc : Array Value → State → Outcome → State → Prop} {XC : String → State → State → Prop} {mc ms : Nat} {free : Addr → Prop} (S : CallFix p m c cc nL s args Ts own) (hs : ∀ w ∈ gws, w ∈ Ts) (hM : gSlX l y b n rm t As post xp)
    (h1 : Cond.methodLink own index y ∈ gws) (h2 : Cond.static y ∈ gws) (h3 : Cond.initialized y.cls ∈ gws) (h4 : Cond.code y b n (some .long) ∈ gws)
    (hd : y.cls ≠ "java/lang/invoke/MethodHandle" ∧ y.cls ≠ "java/lang/invoke/VarHandle" ∧ (parseMethodDescriptor y.desc).map (fun d => d.parameters.length) = some As.length)
    (hR : rm.frames + 1 ≤ R.frames ∧ 8 + (n + 11) + rm.locals ≤ R.locals) (hE : gE t A0 s s.heap) (hS : va_S A0 s.heap H locs) (hA : ∀ q, s.heap.size ≤ q → A0 q) (hsize : ls.size = nL)
    (hstack : st0 = As.reverse ++ rest) (hW : (rest.map fun v => v.category).sum ≤ 8) (hf : cells + rm.cells ≤ R.cells ∧ slots + rm.slots ≤ R.slots) (hdg : decode cc pc = .ok (.invokestatic index, 3))
    (hout : ∀ x ∈ c.exceptionTable.toList, False) (hlocks : meth.locks = false) (hfr : ∀ q, A0 q → free q) (hmc : cells + rm.cells ≤ mc) (hms : slots + rm.slots ≤ ms)
    (kx : ∀ (E : String), xp E → ∀ t' : State, va_F A0 s t' → s.vm.Alike t'.vm → (∀ q : Nat, q < H.size → t'.heap[q]? = H[q]?) → XC E s t')
    (kk : ∀ r : Int64, post r → W p l e R s m args below meth c H locs cells slots (vx_MQ below Qc XC args s mc ms free) (F0 m (pc + 3) ls (.long r :: rest))) :
    W p l e R s m args below meth c H locs cells slots (vx_MQ below Qc XC args s mc ms free) (F0 m pc ls st0) := by
  intro T hT X
  rcases (vx_runS (As := As) (rest := rest) (g := F0 m pc ls st0) S (hM H.size) (va_cwS As.length S.2.2.2.2 (gw_S hs h1 h2 h3 h4) rfl rfl rfl hd hR) (g_pre hE hS hA) rfl rfl hsize hstack (lv_room hW) hdg hf) T hT X with ⟨v, st₀, t', T', L, h0, X', hL, e1, e2, ⟨⟨r, u, hv, hp, hb⟩, hz, hk⟩, st⟩ | ⟨q, st₀, t', T', L, E, ce, h0, X', hL, e1, e2, ⟨u, -, hxp, hF⟩, hce, hcv, hcl, st⟩
  · cases hv
    rw [h0] at hz hk
    have hh : T'.heap = H := g_heap (by rw [e1]; exact hb) (fun q hq => by rw [e1]; exact hk q hq (g_lt hq))
    obtain ⟨t2, a1, b1⟩ := kk r hp T' hh (g_back X X' (by rw [hh, hT]))
    exact ⟨t2, st t2 a1, b1⟩
  · obtain ⟨k1, k2, k3⟩ := vx_keep h0 e1 hS (fun q _ h => g_free hS hA q h) (g_free hS hA) hL hF
    obtain ⟨t2, a1, b1⟩ := vx_out (Qc := Qc) (XC := XC) (mc := mc) (ms := ms) (free := free) (ls := ls) (rest := rest) (pc := pc) (fun x hx => (hout x hx).elim) hlocks (by rw [e1]; exact hce) hcv hcl
      (fun t2 ht2 hal2 => kx E hxp t2 (k3.F ht2) hal2 (fun q hq => by rw [ht2]; exact k2 q hq (g_lt hq))) (fun z hz => hfr _ (k3.2.2 z hz)) hmc hms T' rfl X'
    exact ⟨t2, st.trans a1, b1⟩
/-- 'throw new E()' -/
theorem g_throw {Qc : Array Value → State → Outcome → State → Prop} {XC : String → State → State → Prop} {mc ms ik ic : Nat} {free : Addr → Prop} {cls : String} (S : CallFix p m c cc nL s args Ts own) (hs : ∀ w ∈ gws, w ∈ Ts) (hl : l.stackTraces = false)
    (hcls : Bundle.fit cls = true) (hk : Cond.classLink own ik cls ∈ gws) (hini : Cond.initialized cls ∈ gws) (hw1 : ∀ w ∈ (vx_at0 own ic cls gUp).filter goodWord, w ∈ gws) (hw2 : ∀ w ∈ (vx_at0 own ic cls gUp).filter (fun w => !goodWord w), w ∈ gNs)
    (hgood : ∀ w ∈ Cond.classLink own ik cls :: Cond.initialized cls :: vx_at0 own ic cls gUp, vx_ot w = true)
    (hE : gE t A0 s s.heap) (hS : va_S A0 s.heap H locs) (hsize : ls.size = nL)
    (d0 : decode cc pc = .ok (.new ik, 3)) (d3 : decode cc (pc + 3) = .ok (.dup, 1)) (d4 : decode cc (pc + 4) = .ok (.invokespecial ic, 3)) (d7 : decode cc (pc + 7) = .ok (.athrow, 1))
    (hout : ∀ x ∈ c.exceptionTable.toList, False) (hlocks : meth.locks = false) (hRf : 5 < R.frames) (hRl : (rest.map fun v => v.category).sum + 81 ≤ R.locals) (hRc : cells + 1 ≤ R.cells) (hRs : slots + 6 ≤ R.slots)
    (hfr : ∀ q, A0 q → free q) (hmc : cells + 1 ≤ mc) (hms : slots + 6 ≤ ms)
    (kx : ∀ t' : State, va_F A0 s t' → s.vm.Alike t'.vm → (∀ q : Nat, q < H.size → t'.heap[q]? = H[q]?) → XC cls s t') :
    W p l e R s m args below meth c H locs cells slots (vx_MQ below Qc XC args s mc ms free) (F0 m pc ls rest) := by
  obtain ⟨hx, hb, hml, hown, hts⟩ := S
  obtain ⟨g1, -, g3, g4, -, -⟩ := hE
  refine vx_throw0 (names := gUp) hx hb hl hown hcls (by decide +kernel) (hts _ (hs _ hk)) (hts _ (hs _ hini)) (vx_hat (B := gNs) (fun w hw => hts _ (hs _ (hw1 w hw))) hw2 (fun w hw => va_Nw.use (gNs_on w hw) (g1 w hw))) hgood g3 g4 hS (hsize.trans hml.symm) d0 d3 d4 d7 (fun x hx => (hout x hx).elim) hRf hRl hRc hRs hlocks
    (fun t' hal hz hk => kx t' ⟨Nat.le_trans hS.1 hz, fun q h1 h2 => (hk q (Nat.lt_of_lt_of_le h1 hS.1)).trans (hS.2.1 q h1 h2)⟩ hal hk) (fun z hz => hfr _ (hS.2.2 z hz)) hmc hms
/-- the ends of the static ones -/
theorem g_lret {post : Int64 → Prop} {v : Int64} (hx : p.tables.exec = Jvm.exec) (hb : c.code = cc) (hr : meth.sig.returnType = some .long) (hlocks : meth.locks = false) (hq : post v) (hdg : decode cc pc = .ok (.lreturn, 1)) :
    W p l e R s m args below meth c s.heap [] cells slots (MQ below (va_Ql (fun r (_ : Unit) => post r) (fun _ t' => t'.heap.size = s.heap.size) (gN s.heap.size)) args s cells slots (gN s.heap.size)) (F0 m pc ls [.long v]) :=
  W.lret hx hb hr (fun t ht _ => ⟨⟨v, (), rfl, hq, congrArg Array.size ht⟩, (va_S.rf (A := gN s.heap.size)).F ht⟩) (fun _ h => by cases h) hdg hlocks
theorem g_iret {post : Int32 → Prop} {v : Int32} (hx : p.tables.exec = Jvm.exec) (hb : c.code = cc) (hr : meth.sig.returnType = some .int) (hlocks : meth.locks = false) (hq : post v) (hdg : decode cc pc = .ok (.ireturn, 1)) :
    W p l e R s m args below meth c s.heap [] cells slots (MQ below (va_Qi (fun r (_ : Unit) => post r) (fun _ t' => t'.heap.size = s.heap.size) (gN s.heap.size)) args s cells slots (gN s.heap.size)) (F0 m pc ls [.int v]) :=
  W.iret hx hb hr (fun t ht _ => ⟨⟨v, (), rfl, hq, congrArg Array.size ht⟩, (va_S.rf (A := gN s.heap.size)).F ht⟩) (fun _ h => by cases h) hdg hlocks
theorem g_zret {post : Int32 → Prop} {v : Int32} (hx : p.tables.exec = Jvm.exec) (hb : c.code = cc) (hr : meth.sig.returnType = some .boolean) (hn : narrow .boolean (.int v) = .int v) (hlocks : meth.locks = false) (hq : post v) (hdg : decode cc pc = .ok (.ireturn, 1)) :
    W p l e R s m args below meth c s.heap [] cells slots (MQ below (va_Qi (fun r (_ : Unit) => post r) (fun _ t' => t'.heap.size = s.heap.size) (gN s.heap.size)) args s cells slots (gN s.heap.size)) (F0 m pc ls [.int v]) :=
  W.zret hx hb hr hn (fun t ht _ => ⟨⟨v, (), rfl, hq, congrArg Array.size ht⟩, (va_S.rf (A := gN s.heap.size)).F ht⟩) (fun _ h => by cases h) hdg hlocks
/-- two longs compared, and the jump on it -/
theorem g_lc_lt (hx : p.tables.exec = Jvm.exec) (hb : c.code = cc) {x y : Int64} {off : Int} {tgt : Nat} (d1 : decode cc pc = .ok (.lcmp, 1)) (d2 : decode cc (pc + 1) = .ok (.ifCond .lt off, 3)) (ht : ((pc + 1 : Nat) : Int) + off = (tgt : Int)) (k1 : x < y → W p l e R s m args below meth c H locs cells slots Q (F0 m tgt ls rest)) (k2 : ¬ x < y → W p l e R s m args below meth c H locs cells slots Q (F0 m (pc + 4) ls rest)) : W p l e R s m args below meth c H locs cells slots Q (F0 m pc ls (.long y :: .long x :: rest)) :=
  W.lcmp hx hb d1 (lv_if_lt hx hb d2 ht (fun h => k1 ((lg_cmp_lt x y).mp h)) (fun h => k2 (fun q => h ((lg_cmp_lt x y).mpr q))))
theorem g_lc_ge (hx : p.tables.exec = Jvm.exec) (hb : c.code = cc) {x y : Int64} {off : Int} {tgt : Nat} (d1 : decode cc pc = .ok (.lcmp, 1)) (d2 : decode cc (pc + 1) = .ok (.ifCond .ge off, 3)) (ht : ((pc + 1 : Nat) : Int) + off = (tgt : Int)) (k1 : y ≤ x → W p l e R s m args below meth c H locs cells slots Q (F0 m tgt ls rest)) (k2 : ¬ y ≤ x → W p l e R s m args below meth c H locs cells slots Q (F0 m (pc + 4) ls rest)) : W p l e R s m args below meth c H locs cells slots Q (F0 m pc ls (.long y :: .long x :: rest)) :=
  W.lcmp hx hb d1 (lv_if_ge hx hb d2 ht (fun h => k1 ((lg_cmp_ge x y).mp h)) (fun h => k2 (fun q => h ((lg_cmp_ge x y).mpr q))))
theorem g_lc_gt (hx : p.tables.exec = Jvm.exec) (hb : c.code = cc) {x y : Int64} {off : Int} {tgt : Nat} (d1 : decode cc pc = .ok (.lcmp, 1)) (d2 : decode cc (pc + 1) = .ok (.ifCond .gt off, 3)) (ht : ((pc + 1 : Nat) : Int) + off = (tgt : Int)) (k1 : y < x → W p l e R s m args below meth c H locs cells slots Q (F0 m tgt ls rest)) (k2 : ¬ y < x → W p l e R s m args below meth c H locs cells slots Q (F0 m (pc + 4) ls rest)) : W p l e R s m args below meth c H locs cells slots Q (F0 m pc ls (.long y :: .long x :: rest)) :=
  W.lcmp hx hb d1 (lv_if_gt hx hb d2 ht (fun h => k1 ((lg_cmp_gt x y).mp h)) (fun h => k2 (fun q => h ((lg_cmp_gt x y).mpr q))))
theorem g_lc_le (hx : p.tables.exec = Jvm.exec) (hb : c.code = cc) {x y : Int64} {off : Int} {tgt : Nat} (d1 : decode cc pc = .ok (.lcmp, 1)) (d2 : decode cc (pc + 1) = .ok (.ifCond .le off, 3)) (ht : ((pc + 1 : Nat) : Int) + off = (tgt : Int)) (k1 : x ≤ y → W p l e R s m args below meth c H locs cells slots Q (F0 m tgt ls rest)) (k2 : ¬ x ≤ y → W p l e R s m args below meth c H locs cells slots Q (F0 m (pc + 4) ls rest)) : W p l e R s m args below meth c H locs cells slots Q (F0 m pc ls (.long y :: .long x :: rest)) :=
  W.lcmp hx hb d1 (lv_if_le hx hb d2 ht (fun h => k1 ((lg_cmp_le x y).mp h)) (fun h => k2 (fun q => h ((lg_cmp_le x y).mpr q))))
theorem g_lc_eq (hx : p.tables.exec = Jvm.exec) (hb : c.code = cc) {x y : Int64} {off : Int} {tgt : Nat} (d1 : decode cc pc = .ok (.lcmp, 1)) (d2 : decode cc (pc + 1) = .ok (.ifCond .eq off, 3)) (ht : ((pc + 1 : Nat) : Int) + off = (tgt : Int)) (k1 : x = y → W p l e R s m args below meth c H locs cells slots Q (F0 m tgt ls rest)) (k2 : ¬ x = y → W p l e R s m args below meth c H locs cells slots Q (F0 m (pc + 4) ls rest)) : W p l e R s m args below meth c H locs cells slots Q (F0 m pc ls (.long y :: .long x :: rest)) :=
  W.lcmp hx hb d1 (lv_if_eq hx hb d2 ht (fun h => k1 ((lg_cmp_eq x y).mp h)) (fun h => k2 (fun q => h ((lg_cmp_eq x y).mpr q))))
theorem g_lc_ne (hx : p.tables.exec = Jvm.exec) (hb : c.code = cc) {x y : Int64} {off : Int} {tgt : Nat} (d1 : decode cc pc = .ok (.lcmp, 1)) (d2 : decode cc (pc + 1) = .ok (.ifCond .ne off, 3)) (ht : ((pc + 1 : Nat) : Int) + off = (tgt : Int)) (k1 : ¬ x = y → W p l e R s m args below meth c H locs cells slots Q (F0 m tgt ls rest)) (k2 : x = y → W p l e R s m args below meth c H locs cells slots Q (F0 m (pc + 4) ls rest)) : W p l e R s m args below meth c H locs cells slots Q (F0 m pc ls (.long y :: .long x :: rest)) :=
  W.lcmp hx hb d1 (lv_if_ne hx hb d2 ht (fun h => k1 (fun q => h ((lg_cmp_eq x y).mpr q))) (fun h => k2 ((lg_cmp_eq x y).mp h)))
end GC
/-- how a static one is opened -/
theorem g_openl {l : Launch} {y : MethodName} {b : ByteArray} {n : Nat} {rm : Room} {t : Nat} {As : List Value} {post : Int64 → Prop} (hy : plainFor y = true) (hn : (lg_sl As).length ≤ n)
    (body : ∀ (p : Program) (e : Env) (s : State) (m : MethodId) (below : List Frame) (meth : Method) (c : Code) (ls : Array Slot), CallFix p m c b n s As.toArray (Cond.code y b n (some .long) :: gws) y.cls → meth.sig.returnType = some .long → meth.locks = false → gE t (gN s.heap.size) s s.heap → lv_has ls n (lv_args 0 As) →
      W p l e rm s m As.toArray below meth c s.heap [] 0 0 (MQ below (va_Ql (fun r (_ : Unit) => post r) (fun _ t' => t'.heap.size = s.heap.size) (gN s.heap.size)) As.toArray s rm.cells rm.slots (gN s.heap.size)) (F0 m 0 ls [])) : gSl l y b n rm t As post := by
  intro sz
  refine va_MetF (cc := b) (maxL := n) (ret := some .long) hy rfl ?_
  intro p e s m args below meth c s₁ B hml hv
  obtain ⟨rfl, hsz, hE⟩ := hv
  subst hsz
  rw [lg_entry_eq]
  exact body p e s m below meth c _ ⟨B.exec, B.bytes, hml, findClass_of_methodNamed B.named, atoms_spec (ws := Cond.code y b n (some .long) :: gws) B.pre⟩ B.returns B.notSynchronized hE (lv_entry As hn)
theorem g_openi {l : Launch} {y : MethodName} {b : ByteArray} {n : Nat} {ty : FieldType} {rm : Room} {t : Nat} {As : List Value} {post : Int32 → Prop} (hy : plainName y.cls = true) (hn : (lg_sl As).length ≤ n)
    (body : ∀ (p : Program) (e : Env) (s : State) (m : MethodId) (below : List Frame) (meth : Method) (c : Code) (ls : Array Slot), CallFix p m c b n s As.toArray (Cond.code y b n (some ty) :: gws) y.cls → meth.sig.returnType = some ty → meth.locks = false → gE t (gN s.heap.size) s s.heap → lv_has ls n (lv_args 0 As) →
      W p l e rm s m As.toArray below meth c s.heap [] 0 0 (MQ below (va_Qi (fun r (_ : Unit) => post r) (fun _ t' => t'.heap.size = s.heap.size) (gN s.heap.size)) As.toArray s rm.cells rm.slots (gN s.heap.size)) (F0 m 0 ls [])) : gSi l y b n ty rm t As post := by
  intro sz
  refine Met.ofW (cc := b) (maxL := n) (ret := some ty) hy rfl ?_
  intro p e s m args below meth c s₁ B hml hv
  obtain ⟨rfl, hsz, hE⟩ := hv
  subst hsz
  rw [lg_entry_eq]
  exact body p e s m below meth c _ ⟨B.exec, B.bytes, hml, findClass_of_methodNamed B.named, atoms_spec (ws := Cond.code y b n (some ty) :: gws) B.pre⟩ B.returns B.notSynchronized hE (lv_entry As hn)
theorem g_openX {l : Launch} {y : MethodName} {b : ByteArray} {n : Nat} {rm : Room} {t : Nat} {As : List Value} {post : Int64 → Prop} {xp : String → Prop} (hy : plainName y.cls = true) (hn : (lg_sl As).length ≤ n)
    (body : ∀ (p : Program) (e : Env) (s : State) (m : MethodId) (below : List Frame) (meth : Method) (c : Code) (ls : Array Slot), CallFix p m c b n s As.toArray (Cond.code y b n (some .long) :: gws) y.cls → meth.sig.returnType = some .long → meth.locks = false → (∀ x ∈ c.exceptionTable.toList, False) → gE t (gN s.heap.size) s s.heap → lv_has ls n (lv_args 0 As) →
      W p l e rm s m As.toArray below meth c s.heap [] 0 0 (vx_MQ below (va_Ql (fun r (_ : Unit) => post r) (fun _ t' => t'.heap.size = s.heap.size) (gN s.heap.size)) (gXC xp s.heap.size) As.toArray s rm.cells rm.slots (gN s.heap.size)) (F0 m 0 ls [])) : gSlX l y b n rm t As post xp := by
  intro sz
  refine vx_ofW (cc := b) (maxL := n) (ret := some .long) hy rfl ?_
  intro p e s m args below meth c s₁ B hml hout hv
  obtain ⟨rfl, hsz, hE⟩ := hv
  subst hsz
  rw [lg_entry_eq]
  exact body p e s m below meth c _ ⟨B.exec, B.bytes, hml, findClass_of_methodNamed B.named, atoms_spec (ws := Cond.code y b n (some .long) :: gws) B.pre⟩ B.returns B.notSynchronized hout hE (lv_entry As hn)
set_option maxRecDepth 20000 in
theorem gt_IAE1 : ∀ w ∈ (vx_at0 RX0 23 gIAE gUp).filter goodWord, w ∈ gws := by decide +kernel
theorem gt_IAE2 : ∀ w ∈ (vx_at0 RX0 23 gIAE gUp).filter (fun w => !goodWord w), w ∈ gNs := by decide +kernel
theorem gt_IAE3 : ∀ w ∈ Cond.classLink RX0 21 gIAE :: Cond.initialized gIAE :: vx_at0 RX0 23 gIAE gUp, vx_ot w = true := by decide +kernel
set_option maxRecDepth 20000 in
theorem gt_UOE1 : ∀ w ∈ (vx_at0 RX0 56 gUOE gUp).filter goodWord, w ∈ gws := by decide +kernel
theorem gt_UOE2 : ∀ w ∈ (vx_at0 RX0 56 gUOE gUp).filter (fun w => !goodWord w), w ∈ gNs := by decide +kernel
theorem gt_UOE3 : ∀ w ∈ Cond.classLink RX0 54 gUOE :: Cond.initialized gUOE :: vx_at0 RX0 56 gUOE gUp, vx_ot w = true := by decide +kernel
set_option maxRecDepth 20000 in
theorem gt_AE1 : ∀ w ∈ (vx_at0 RX0 53 gAE gUp).filter goodWord, w ∈ gws := by decide +kernel
theorem gt_AE2 : ∀ w ∈ (vx_at0 RX0 53 gAE gUp).filter (fun w => !goodWord w), w ∈ gNs := by decide +kernel
theorem gt_AE3 : ∀ w ∈ Cond.classLink RX0 51 gAE :: Cond.initialized gAE :: vx_at0 RX0 53 gAE gUp, vx_ot w = true := by decide +kernel
end
section
/-- the size of a long, as Math.abs has it -/
def jabs (x : Int64) : Int64 := if 0 < x then x else -x
section GA
variable {p : Program} {l : Launch} {e : Env} {R : Room} {s : State} {m : MethodId} {args : Array Value} {below : List Frame} {meth : Method} {c : Code} {H : Heap} {locs : List Loc} {cells slots : Nat} {Q : State → Prop} {cc : ByteArray} {pc : Nat} {ls : Array Slot} {rest : List Value}
theorem g_abs (hexec : p.tables.exec = Jvm.exec) (hb : c.code = cc) (hml : c.maxLocals = ls.size) {own : String} {index : Nat} (hown : s.vm.findClass own = some m.cls) (hlink : (Cond.methodLink own index yJ9_abs_067f4).before args s = true) (hstat : (Cond.static yJ9_abs_067f4).before args s = true) (hini : (Cond.initialized RJ9).before args s = true) (hcode : (Cond.code yJ9_abs_067f4 cJ9_abs_067f4 2 (some .long)).before args s = true)
    (hframes : 1 ≤ R.frames) (hlocals : (rest.map fun v => v.category).sum + 13 ≤ R.locals) (hc : cells ≤ R.cells) (hs : slots ≤ R.slots) {x : Int64} (hdg : decode cc pc = .ok (.invokestatic index, 3))
    (kk : W p l e R s m args below meth c H locs cells slots Q (F0 m (pc + 3) ls (.long (jabs x) :: rest))) : W p l e R s m args below meth c H locs cells slots Q (F0 m pc ls (.long x :: rest)) :=
  va_mabs_long hexec hb hml hown hlink hstat hini hcode hframes hlocals hc hs hdg kk
end GA
theorem g_out3 {x : Int32} (h0 : ¬ x = 0) (h1 : ¬ x = 1) (h2 : ¬ x = 2) : x.toInt < 0 ∨ 2 < x.toInt := by
  have a0 := lv_neT h0 (a := 0) rfl
  have a1 := lv_neT h1 (a := 1) rfl
  have a2 := lv_neT h2 (a := 2) rfl
  omega
theorem g_out4 {x : Int32} (h0 : ¬ x = 0) (h1 : ¬ x = 1) (h2 : ¬ x = 2) (h3 : ¬ x = 3) : x.toInt < 0 ∨ 3 < x.toInt := by
  have a0 := lv_neT h0 (a := 0) rfl
  have a1 := lv_neT h1 (a := 1) rfl
  have a2 := lv_neT h2 (a := 2) rfl
  have a3 := lv_neT h3 (a := 3) rfl
  omega
/-- go on with an answer, hand on what is thrown -/
def jbind {α : Type} (x : String ⊕ Int64) (f : Int64 → String ⊕ α) : String ⊕ α := match x with
  | .inl E => .inl E
  | .inr r => f r
theorem jbind_inr {α : Type} (r : Int64) (f : Int64 → String ⊕ α) : jbind (.inr r) f = f r := rfl
theorem jbind_inl {α : Type} (E : String) (f : Int64 → String ⊕ α) : jbind (.inl E) f = .inl E := rfl
theorem jabs_ne {x : Int64} (h : ¬ x = 0) : ¬ jabs x = 0 := by
  unfold jabs
  split
  · exact h
  · intro q
    apply h
    have e : x = -(-x) := by simp
    rw [e, q]
    rfl
def jX0_isRegister (r : Int32) : Int32 :=
  if r < (0 : Int32) then
    (0 : Int32)
  else if (8 : Int32) ≤ r then
    (0 : Int32)
  else (1 : Int32)
set_option maxHeartbeats 4000000 in
set_option maxRecDepth 100000 in
theorem tX0_isRegister (l : Launch) (t : Nat) (r : Int32) : gSi l yX0_isRegister cX0_isRegister 1 .boolean { frames := 0, cells := 0, slots := 0, locals := 0 } t [.int r] (fun z9 => z9 = jX0_isRegister r) := by
  refine g_openi (by decide +kernel) (Nat.le_of_ble_eq_true rfl) ?_
  intro p e s m below meth c ls S hr hlocks hE hl
  obtain ⟨hx, hb, hml, hown, hts⟩ := id S
  have hs : ∀ w ∈ gws, w ∈ Cond.code yX0_isRegister cX0_isRegister 1 (some .boolean) :: gws := fun w h => List.mem_cons_of_mem _ h
  have hA : ∀ q, s.heap.size ≤ q → gN s.heap.size q := fun _ h => h
  have hS : va_S (gN s.heap.size) s.heap s.heap [] := va_S.rf
  have hl : lv_has ls 1 [(0, .int r)] := hl
  refine lv_iload_n hx hb dX0_isRegister_0 rfl (lv_at hl 0 rfl) ?_
  refine lv_if_lt (tgt := 14) hx hb dX0_isRegister_1 (by decide) (fun c_1 => ?_) (fun c_1 => ?_)
  · refine lv_iconst (v := 0) hx hb dX0_isRegister_14 (by decide) ?_
    exact g_zret hx hb hr (by decide) hlocks (by rw [jX0_isRegister, if_pos c_1]) dX0_isRegister_15
  · refine lv_iload_n hx hb dX0_isRegister_4 rfl (lv_at hl 0 rfl) ?_
    refine lv_bipush (v := 8) hx hb dX0_isRegister_5 (by decide) ?_
    refine lv_icmp_ge (tgt := 14) hx hb dX0_isRegister_7 (by decide) (fun c_2 => ?_) (fun c_2 => ?_)
    · refine lv_iconst (v := 0) hx hb dX0_isRegister_14 (by decide) ?_
      exact g_zret hx hb hr (by decide) hlocks (by rw [jX0_isRegister, if_neg c_1, if_pos c_2]) dX0_isRegister_15
    · refine lv_iconst (v := 1) hx hb dX0_isRegister_10 (by decide) ?_
      refine lv_goto (tgt := 15) hx hb dX0_isRegister_11 (by decide) ?_
      exact g_zret hx hb hr (by decide) hlocks (by rw [jX0_isRegister, if_neg c_1, if_neg c_2]) dX0_isRegister_15
def jX0_isNumber (n : Int64) : Int32 :=
  if n < (-900000000000000 : Int64) then
    (0 : Int32)
  else if (900000000000000 : Int64) < n then
    (0 : Int32)
  else (1 : Int32)
set_option maxHeartbeats 4000000 in
set_option maxRecDepth 100000 in
theorem tX0_isNumber (l : Launch) (t : Nat) (n : Int64) : gSi l yX0_isNumber cX0_isNumber 2 .boolean { frames := 0, cells := 0, slots := 0, locals := 0 } t [.long n] (fun z9 => z9 = jX0_isNumber n) := by
  refine g_openi (by decide +kernel) (Nat.le_of_ble_eq_true rfl) ?_
  intro p e s m below meth c ls S hr hlocks hE hl
  obtain ⟨hx, hb, hml, hown, hts⟩ := id S
  have hs : ∀ w ∈ gws, w ∈ Cond.code yX0_isNumber cX0_isNumber 2 (some .boolean) :: gws := fun w h => List.mem_cons_of_mem _ h
  have hA : ∀ q, s.heap.size ≤ q → gN s.heap.size q := fun _ h => h
  have hS : va_S (gN s.heap.size) s.heap s.heap [] := va_S.rf
  have hl : lv_has ls 2 [(0, .long n)] := hl
  refine lv_lload_n hx hb dX0_isNumber_0 rfl (lv_at hl 0 rfl) ?_
  refine lv_ldc2 hx hb hown (hts _ (hs _ kl_X0_47)) dX0_isNumber_1 ?_
  refine g_lc_lt (tgt := 20) hx hb dX0_isNumber_4 dX0_isNumber_5 (by decide) (fun c_1 => ?_) (fun c_1 => ?_)
  · refine lv_iconst (v := 0) hx hb dX0_isNumber_20 (by decide) ?_
    exact g_zret hx hb hr (by decide) hlocks (by rw [jX0_isNumber, if_pos c_1]) dX0_isNumber_21
  · refine lv_lload_n hx hb dX0_isNumber_8 rfl (lv_at hl 0 rfl) ?_
    refine lv_ldc2 hx hb hown (hts _ (hs _ kl_X0_49)) dX0_isNumber_9 ?_
    refine g_lc_gt (tgt := 20) hx hb dX0_isNumber_12 dX0_isNumber_13 (by decide) (fun c_2 => ?_) (fun c_2 => ?_)
    · refine lv_iconst (v := 0) hx hb dX0_isNumber_20 (by decide) ?_
      exact g_zret hx hb hr (by decide) hlocks (by rw [jX0_isNumber, if_neg c_1, if_pos c_2]) dX0_isNumber_21
    · refine lv_iconst (v := 1) hx hb dX0_isNumber_16 (by decide) ?_
      refine lv_goto (tgt := 21) hx hb dX0_isNumber_17 (by decide) ?_
      exact g_zret hx hb hr (by decide) hlocks (by rw [jX0_isNumber, if_neg c_1, if_neg c_2]) dX0_isNumber_21
def jX1_size (v : Int64) : Int64 :=
  if (0 : Int64) ≤ v then
    v
  else -v
set_option maxHeartbeats 4000000 in
set_option maxRecDepth 100000 in
theorem tX1_size (l : Launch) (t : Nat) (v : Int64) : gSl l yX1_size cX1_size 2 { frames := 0, cells := 0, slots := 0, locals := 0 } t [.long v] (fun z9 => z9 = jX1_size v) := by
  refine g_openl (by decide +kernel) (Nat.le_of_ble_eq_true rfl) ?_
  intro p e s m below meth c ls S hr hlocks hE hl
  obtain ⟨hx, hb, hml, hown, hts⟩ := id S
  have hs : ∀ w ∈ gws, w ∈ Cond.code yX1_size cX1_size 2 (some .long) :: gws := fun w h => List.mem_cons_of_mem _ h
  have hA : ∀ q, s.heap.size ≤ q → gN s.heap.size q := fun _ h => h
  have hS : va_S (gN s.heap.size) s.heap s.heap [] := va_S.rf
  have hl : lv_has ls 2 [(0, .long v)] := hl
  refine lv_lload_n hx hb dX1_size_0 rfl (lv_at hl 0 rfl) ?_
  refine lv_lconst (v := 0) hx hb dX1_size_1 (by decide) ?_
  refine g_lc_ge (tgt := 11) hx hb dX1_size_2 dX1_size_3 (by decide) (fun c_1 => ?_) (fun c_1 => ?_)
  · refine lv_lload_n hx hb dX1_size_11 rfl (lv_at hl 0 rfl) ?_
    exact g_lret hx hb hr hlocks (by rw [jX1_size, if_pos c_1]) dX1_size_12
  · refine lv_lload_n hx hb dX1_size_6 rfl (lv_at hl 0 rfl) ?_
    refine lv_lneg hx hb dX1_size_7 ?_
    refine lv_goto (tgt := 12) hx hb dX1_size_8 (by decide) ?_
    exact g_lret hx hb hr hlocks (by rw [jX1_size, if_neg c_1]) dX1_size_12
def jfloorMod (x : Int64) (y : Int64) : Int64 :=
  if (0 : Int64) ≤ (x ^^^ y) then
    x - x / y * y
  else if (x - x / y * y) = (0 : Int64) then
    x - x / y * y
  else (x - x / y * y) + y
set_option maxHeartbeats 4000000 in
set_option maxRecDepth 100000 in
theorem tJ9_floorMod_f86c9 (l : Launch) (t : Nat) (x : Int64) (y : Int64) (hy : ¬ y = 0) : gSl l yJ9_floorMod_f86c9 cJ9_floorMod_f86c9 6 { frames := 0, cells := 0, slots := 0, locals := 0 } t [.long x, .long y] (fun z9 => z9 = jfloorMod x y) := by
  refine g_openl (by decide +kernel) (Nat.le_of_ble_eq_true rfl) ?_
  intro p e s m below meth c ls S hr hlocks hE hl
  obtain ⟨hx, hb, hml, hown, hts⟩ := id S
  have hs : ∀ w ∈ gws, w ∈ Cond.code yJ9_floorMod_f86c9 cJ9_floorMod_f86c9 6 (some .long) :: gws := fun w h => List.mem_cons_of_mem _ h
  have hA : ∀ q, s.heap.size ≤ q → gN s.heap.size q := fun _ h => h
  have hS : va_S (gN s.heap.size) s.heap s.heap [] := va_S.rf
  have hl : lv_has ls 6 [(0, .long x), (2, .long y)] := hl
  refine lv_lload_n hx hb dJ9_floorMod_f86c9_0 rfl (lv_at hl 0 rfl) ?_
  refine lv_lload_n hx hb dJ9_floorMod_f86c9_1 rfl (lv_at hl 1 rfl) ?_
  refine lv_lrem hx hb dJ9_floorMod_f86c9_2 (hy) ?_
  refine lv_lstore (lv' := [(4, .long (x - x / y * y)), (0, .long x), (2, .long y)]) hx hb dJ9_floorMod_f86c9_3 hl (by decide) rfl (fun ls hl => ?_)
  refine lv_lload_n hx hb dJ9_floorMod_f86c9_5 rfl (lv_at hl 1 rfl) ?_
  refine lv_lload_n hx hb dJ9_floorMod_f86c9_6 rfl (lv_at hl 2 rfl) ?_
  refine lv_lxor hx hb dJ9_floorMod_f86c9_7 ?_
  refine lv_lconst (v := 0) hx hb dJ9_floorMod_f86c9_8 (by decide) ?_
  refine g_lc_ge (tgt := 25) hx hb dJ9_floorMod_f86c9_9 dJ9_floorMod_f86c9_10 (by decide) (fun c_1 => ?_) (fun c_1 => ?_)
  · refine lv_lload hx hb dJ9_floorMod_f86c9_25 (lv_at hl 0 rfl) ?_
    exact g_lret hx hb hr hlocks (by rw [jfloorMod, if_pos c_1]) dJ9_floorMod_f86c9_27
  · refine lv_lload hx hb dJ9_floorMod_f86c9_13 (lv_at hl 0 rfl) ?_
    refine lv_lconst (v := 0) hx hb dJ9_floorMod_f86c9_15 (by decide) ?_
    refine g_lc_eq (tgt := 25) hx hb dJ9_floorMod_f86c9_16 dJ9_floorMod_f86c9_17 (by decide) (fun c_2 => ?_) (fun c_2 => ?_)
    · refine lv_lload hx hb dJ9_floorMod_f86c9_25 (lv_at hl 0 rfl) ?_
      exact g_lret hx hb hr hlocks (by rw [jfloorMod, if_neg c_1, if_pos c_2]) dJ9_floorMod_f86c9_27
    · refine lv_lload hx hb dJ9_floorMod_f86c9_20 (lv_at hl 0 rfl) ?_
      refine lv_lload_n hx hb dJ9_floorMod_f86c9_22 rfl (lv_at hl 2 rfl) ?_
      refine lv_ladd hx hb dJ9_floorMod_f86c9_23 ?_
      exact g_lret hx hb hr hlocks (by rw [jfloorMod, if_neg c_1, if_neg c_2]) dJ9_floorMod_f86c9_24
def jfloorDiv (x : Int64) (y : Int64) : Int64 :=
  if (0 : Int64) ≤ (x ^^^ y) then
    x / y
  else if ((x / y) * y) = x then
    x / y
  else (x / y) - (1 : Int64)
set_option maxHeartbeats 4000000 in
set_option maxRecDepth 100000 in
theorem tJ9_floorDiv_f86c9 (l : Launch) (t : Nat) (x : Int64) (y : Int64) (hy : ¬ y = 0) : gSl l yJ9_floorDiv_f86c9 cJ9_floorDiv_f86c9 6 { frames := 0, cells := 0, slots := 0, locals := 0 } t [.long x, .long y] (fun z9 => z9 = jfloorDiv x y) := by
  refine g_openl (by decide +kernel) (Nat.le_of_ble_eq_true rfl) ?_
  intro p e s m below meth c ls S hr hlocks hE hl
  obtain ⟨hx, hb, hml, hown, hts⟩ := id S
  have hs : ∀ w ∈ gws, w ∈ Cond.code yJ9_floorDiv_f86c9 cJ9_floorDiv_f86c9 6 (some .long) :: gws := fun w h => List.mem_cons_of_mem _ h
  have hA : ∀ q, s.heap.size ≤ q → gN s.heap.size q := fun _ h => h
  have hS : va_S (gN s.heap.size) s.heap s.heap [] := va_S.rf
  have hl : lv_has ls 6 [(0, .long x), (2, .long y)] := hl
  refine lv_lload_n hx hb dJ9_floorDiv_f86c9_0 rfl (lv_at hl 0 rfl) ?_
  refine lv_lload_n hx hb dJ9_floorDiv_f86c9_1 rfl (lv_at hl 1 rfl) ?_
  refine lv_ldiv hx hb dJ9_floorDiv_f86c9_2 (hy) ?_
  refine lv_lstore (lv' := [(4, .long (x / y)), (0, .long x), (2, .long y)]) hx hb dJ9_floorDiv_f86c9_3 hl (by decide) rfl (fun ls hl => ?_)
  refine lv_lload_n hx hb dJ9_floorDiv_f86c9_5 rfl (lv_at hl 1 rfl) ?_
  refine lv_lload_n hx hb dJ9_floorDiv_f86c9_6 rfl (lv_at hl 2 rfl) ?_
  refine lv_lxor hx hb dJ9_floorDiv_f86c9_7 ?_
  refine lv_lconst (v := 0) hx hb dJ9_floorDiv_f86c9_8 (by decide) ?_
  refine g_lc_ge (tgt := 27) hx hb dJ9_floorDiv_f86c9_9 dJ9_floorDiv_f86c9_10 (by decide) (fun c_1 => ?_) (fun c_1 => ?_)
  · refine lv_lload hx hb dJ9_floorDiv_f86c9_27 (lv_at hl 0 rfl) ?_
    exact g_lret hx hb hr hlocks (by rw [jfloorDiv, if_pos c_1]) dJ9_floorDiv_f86c9_29
  · refine lv_lload hx hb dJ9_floorDiv_f86c9_13 (lv_at hl 0 rfl) ?_
    refine lv_lload_n hx hb dJ9_floorDiv_f86c9_15 rfl (lv_at hl 2 rfl) ?_
    refine lv_lmul hx hb dJ9_floorDiv_f86c9_16 ?_
    refine lv_lload_n hx hb dJ9_floorDiv_f86c9_17 rfl (lv_at hl 1 rfl) ?_
    refine g_lc_eq (tgt := 27) hx hb dJ9_floorDiv_f86c9_18 dJ9_floorDiv_f86c9_19 (by decide) (fun c_2 => ?_) (fun c_2 => ?_)
    · refine lv_lload hx hb dJ9_floorDiv_f86c9_27 (lv_at hl 0 rfl) ?_
      exact g_lret hx hb hr hlocks (by rw [jfloorDiv, if_neg c_1, if_pos c_2]) dJ9_floorDiv_f86c9_29
    · refine lv_lload hx hb dJ9_floorDiv_f86c9_22 (lv_at hl 0 rfl) ?_
      refine lv_lconst (v := 1) hx hb dJ9_floorDiv_f86c9_24 (by decide) ?_
      refine lv_lsub hx hb dJ9_floorDiv_f86c9_25 ?_
      exact g_lret hx hb hr hlocks (by rw [jfloorDiv, if_neg c_1, if_neg c_2]) dJ9_floorDiv_f86c9_26
def jrq (a : Int64) (b : Int64) : Int64 :=
  if ((jabs a) - (jabs a) / (jabs b) * (jabs b)) < ((jabs b) - ((jabs a) - (jabs a) / (jabs b) * (jabs b))) then
    if (0 : Int64) ≤ a then
      if (0 : Int64) ≤ b then
        (jabs a) / (jabs b)
      else -((jabs a) / (jabs b))
    else if (0 : Int64) ≤ b then
      -((jabs a) / (jabs b))
    else (jabs a) / (jabs b)
  else if (0 : Int64) ≤ a then
    if (0 : Int64) ≤ b then
      ((jabs a) / (jabs b)) + (1 : Int64)
    else -(((jabs a) / (jabs b)) + (1 : Int64))
  else if (0 : Int64) ≤ b then
    -(((jabs a) / (jabs b)) + (1 : Int64))
  else ((jabs a) / (jabs b)) + (1 : Int64)
set_option maxHeartbeats 4000000 in
set_option maxRecDepth 100000 in
theorem tX0_roundedQuotient (l : Launch) (t : Nat) (a : Int64) (b : Int64) (hb0 : ¬ jabs b = 0) : gSl l yX0_roundedQuotient cX0_roundedQuotient 12 { frames := 2, cells := 0, slots := 0, locals := 40 } t [.long a, .long b] (fun z9 => z9 = jrq a b) := by
  refine g_openl (by decide +kernel) (Nat.le_of_ble_eq_true rfl) ?_
  intro p e s m below meth c ls S hr hlocks hE hl
  obtain ⟨hx, hb, hml, hown, hts⟩ := id S
  have hs : ∀ w ∈ gws, w ∈ Cond.code yX0_roundedQuotient cX0_roundedQuotient 12 (some .long) :: gws := fun w h => List.mem_cons_of_mem _ h
  have hA : ∀ q, s.heap.size ≤ q → gN s.heap.size q := fun _ h => h
  have hS : va_S (gN s.heap.size) s.heap s.heap [] := va_S.rf
  have hl : lv_has ls 12 [(0, .long a), (2, .long b)] := hl
  refine lv_lload_n hx hb dX0_roundedQuotient_0 rfl (lv_at hl 0 rfl) ?_
  refine g_abs hx hb (by rw [hml]; exact hl.1.symm) hown (hts _ (hs _ ml_X0_72)) (hts _ (hs _ st_yJ9_abs_067f4)) (hts _ (hs _ in_J9)) (hts _ (hs _ cd_yJ9_abs_067f4)) (by decide) (Nat.le_of_ble_eq_true rfl) (by decide) (by decide) dX0_roundedQuotient_1 ?_
  refine lv_lstore (lv' := [(4, .long (jabs a)), (0, .long a), (2, .long b)]) hx hb dX0_roundedQuotient_4 hl (by decide) rfl (fun ls hl => ?_)
  refine lv_lload_n hx hb dX0_roundedQuotient_6 rfl (lv_at hl 2 rfl) ?_
  refine g_abs hx hb (by rw [hml]; exact hl.1.symm) hown (hts _ (hs _ ml_X0_72)) (hts _ (hs _ st_yJ9_abs_067f4)) (hts _ (hs _ in_J9)) (hts _ (hs _ cd_yJ9_abs_067f4)) (by decide) (Nat.le_of_ble_eq_true rfl) (by decide) (by decide) dX0_roundedQuotient_7 ?_
  refine lv_lstore (lv' := [(6, .long (jabs b)), (4, .long (jabs a)), (0, .long a), (2, .long b)]) hx hb dX0_roundedQuotient_10 hl (by decide) rfl (fun ls hl => ?_)
  refine lv_lload hx hb dX0_roundedQuotient_12 (lv_at hl 1 rfl) ?_
  refine lv_lload hx hb dX0_roundedQuotient_14 (lv_at hl 0 rfl) ?_
  refine lv_ldiv hx hb dX0_roundedQuotient_16 (hb0) ?_
  refine lv_lstore (lv' := [(8, .long ((jabs a) / (jabs b))), (6, .long (jabs b)), (4, .long (jabs a)), (0, .long a), (2, .long b)]) hx hb dX0_roundedQuotient_17 hl (by decide) rfl (fun ls hl => ?_)
  refine lv_lload hx hb dX0_roundedQuotient_19 (lv_at hl 2 rfl) ?_
  refine lv_lload hx hb dX0_roundedQuotient_21 (lv_at hl 1 rfl) ?_
  refine lv_lrem hx hb dX0_roundedQuotient_23 (hb0) ?_
  refine lv_lstore (lv' := [(10, .long ((jabs a) - (jabs a) / (jabs b) * (jabs b))), (8, .long ((jabs a) / (jabs b))), (6, .long (jabs b)), (4, .long (jabs a)), (0, .long a), (2, .long b)]) hx hb dX0_roundedQuotient_24 hl (by decide) rfl (fun ls hl => ?_)
  refine lv_lload hx hb dX0_roundedQuotient_26 (lv_at hl 0 rfl) ?_
  refine lv_lload hx hb dX0_roundedQuotient_28 (lv_at hl 2 rfl) ?_
  refine lv_lload hx hb dX0_roundedQuotient_30 (lv_at hl 0 rfl) ?_
  refine lv_lsub hx hb dX0_roundedQuotient_32 ?_
  refine g_lc_lt (tgt := 43) hx hb dX0_roundedQuotient_33 dX0_roundedQuotient_34 (by decide) (fun c_1 => ?_) (fun c_1 => ?_)
  · refine lv_lload_n hx hb dX0_roundedQuotient_43 rfl (lv_at hl 4 rfl) ?_
    refine lv_lconst (v := 0) hx hb dX0_roundedQuotient_44 (by decide) ?_
    refine g_lc_ge (tgt := 53) hx hb dX0_roundedQuotient_45 dX0_roundedQuotient_46 (by decide) (fun c_2 => ?_) (fun c_2 => ?_)
    · refine lv_iconst (v := 0) hx hb dX0_roundedQuotient_53 (by decide) ?_
      refine lv_lload_n hx hb dX0_roundedQuotient_54 rfl (lv_at hl 5 rfl) ?_
      refine lv_lconst (v := 0) hx hb dX0_roundedQuotient_55 (by decide) ?_
      refine g_lc_ge (tgt := 64) hx hb dX0_roundedQuotient_56 dX0_roundedQuotient_57 (by decide) (fun c_3 => ?_) (fun c_3 => ?_)
      · refine lv_iconst (v := 0) hx hb dX0_roundedQuotient_64 (by decide) ?_
        refine lv_icmp_ne (tgt := 73) hx hb dX0_roundedQuotient_65 (by decide) (fun c_4 => absurd c_4 (by decide)) (fun c_4 => ?_)
        refine lv_lload hx hb dX0_roundedQuotient_68 (lv_at hl 1 rfl) ?_
        refine lv_goto (tgt := 76) hx hb dX0_roundedQuotient_70 (by decide) ?_
        exact g_lret hx hb hr hlocks (by rw [jrq, if_pos c_1, if_pos c_2, if_pos c_3]) dX0_roundedQuotient_76
      · refine lv_iconst (v := 1) hx hb dX0_roundedQuotient_60 (by decide) ?_
        refine lv_goto (tgt := 65) hx hb dX0_roundedQuotient_61 (by decide) ?_
        refine lv_icmp_ne (tgt := 73) hx hb dX0_roundedQuotient_65 (by decide) (fun c_5 => ?_) (fun c_5 => absurd c_5 (by decide))
        refine lv_lload hx hb dX0_roundedQuotient_73 (lv_at hl 1 rfl) ?_
        refine lv_lneg hx hb dX0_roundedQuotient_75 ?_
        exact g_lret hx hb hr hlocks (by rw [jrq, if_pos c_1, if_pos c_2, if_neg c_3]) dX0_roundedQuotient_76
    · refine lv_iconst (v := 1) hx hb dX0_roundedQuotient_49 (by decide) ?_
      refine lv_goto (tgt := 54) hx hb dX0_roundedQuotient_50 (by decide) ?_
      refine lv_lload_n hx hb dX0_roundedQuotient_54 rfl (lv_at hl 5 rfl) ?_
      refine lv_lconst (v := 0) hx hb dX0_roundedQuotient_55 (by decide) ?_
      refine g_lc_ge (tgt := 64) hx hb dX0_roundedQuotient_56 dX0_roundedQuotient_57 (by decide) (fun c_6 => ?_) (fun c_6 => ?_)
      · refine lv_iconst (v := 0) hx hb dX0_roundedQuotient_64 (by decide) ?_
        refine lv_icmp_ne (tgt := 73) hx hb dX0_roundedQuotient_65 (by decide) (fun c_7 => ?_) (fun c_7 => absurd c_7 (by decide))
        refine lv_lload hx hb dX0_roundedQuotient_73 (lv_at hl 1 rfl) ?_
        refine lv_lneg hx hb dX0_roundedQuotient_75 ?_
        exact g_lret hx hb hr hlocks (by rw [jrq, if_pos c_1, if_neg c_2, if_pos c_6]) dX0_roundedQuotient_76
      · refine lv_iconst (v := 1) hx hb dX0_roundedQuotient_60 (by decide) ?_
        refine lv_goto (tgt := 65) hx hb dX0_roundedQuotient_61 (by decide) ?_
        refine lv_icmp_ne (tgt := 73) hx hb dX0_roundedQuotient_65 (by decide) (fun c_8 => absurd c_8 (by decide)) (fun c_8 => ?_)
        refine lv_lload hx hb dX0_roundedQuotient_68 (lv_at hl 1 rfl) ?_
        refine lv_goto (tgt := 76) hx hb dX0_roundedQuotient_70 (by decide) ?_
        exact g_lret hx hb hr hlocks (by rw [jrq, if_pos c_1, if_neg c_2, if_neg c_6]) dX0_roundedQuotient_76
  · refine lv_lload hx hb dX0_roundedQuotient_37 (lv_at hl 1 rfl) ?_
    refine lv_lconst (v := 1) hx hb dX0_roundedQuotient_39 (by decide) ?_
    refine lv_ladd hx hb dX0_roundedQuotient_40 ?_
    refine lv_lstore (lv' := [(8, .long (((jabs a) / (jabs b)) + (1 : Int64))), (10, .long ((jabs a) - (jabs a) / (jabs b) * (jabs b))), (6, .long (jabs b)), (4, .long (jabs a)), (0, .long a), (2, .long b)]) hx hb dX0_roundedQuotient_41 hl (by decide) rfl (fun ls hl => ?_)
    refine lv_lload_n hx hb dX0_roundedQuotient_43 rfl (lv_at hl 4 rfl) ?_
    refine lv_lconst (v := 0) hx hb dX0_roundedQuotient_44 (by decide) ?_
    refine g_lc_ge (tgt := 53) hx hb dX0_roundedQuotient_45 dX0_roundedQuotient_46 (by decide) (fun c_9 => ?_) (fun c_9 => ?_)
    · refine lv_iconst (v := 0) hx hb dX0_roundedQuotient_53 (by decide) ?_
      refine lv_lload_n hx hb dX0_roundedQuotient_54 rfl (lv_at hl 5 rfl) ?_
      refine lv_lconst (v := 0) hx hb dX0_roundedQuotient_55 (by decide) ?_
      refine g_lc_ge (tgt := 64) hx hb dX0_roundedQuotient_56 dX0_roundedQuotient_57 (by decide) (fun c_10 => ?_) (fun c_10 => ?_)
      · refine lv_iconst (v := 0) hx hb dX0_roundedQuotient_64 (by decide) ?_
        refine lv_icmp_ne (tgt := 73) hx hb dX0_roundedQuotient_65 (by decide) (fun c_11 => absurd c_11 (by decide)) (fun c_11 => ?_)
        refine lv_lload hx hb dX0_roundedQuotient_68 (lv_at hl 0 rfl) ?_
        refine lv_goto (tgt := 76) hx hb dX0_roundedQuotient_70 (by decide) ?_
        exact g_lret hx hb hr hlocks (by rw [jrq, if_neg c_1, if_pos c_9, if_pos c_10]) dX0_roundedQuotient_76
      · refine lv_iconst (v := 1) hx hb dX0_roundedQuotient_60 (by decide) ?_
        refine lv_goto (tgt := 65) hx hb dX0_roundedQuotient_61 (by decide) ?_
        refine lv_icmp_ne (tgt := 73) hx hb dX0_roundedQuotient_65 (by decide) (fun c_12 => ?_) (fun c_12 => absurd c_12 (by decide))
        refine lv_lload hx hb dX0_roundedQuotient_73 (lv_at hl 0 rfl) ?_
        refine lv_lneg hx hb dX0_roundedQuotient_75 ?_
        exact g_lret hx hb hr hlocks (by rw [jrq, if_neg c_1, if_pos c_9, if_neg c_10]) dX0_roundedQuotient_76
    · refine lv_iconst (v := 1) hx hb dX0_roundedQuotient_49 (by decide) ?_
      refine lv_goto (tgt := 54) hx hb dX0_roundedQuotient_50 (by decide) ?_
      refine lv_lload_n hx hb dX0_roundedQuotient_54 rfl (lv_at hl 5 rfl) ?_
      refine lv_lconst (v := 0) hx hb dX0_roundedQuotient_55 (by decide) ?_
      refine g_lc_ge (tgt := 64) hx hb dX0_roundedQuotient_56 dX0_roundedQuotient_57 (by decide) (fun c_13 => ?_) (fun c_13 => ?_)
      · refine lv_iconst (v := 0) hx hb dX0_roundedQuotient_64 (by decide) ?_
        refine lv_icmp_ne (tgt := 73) hx hb dX0_roundedQuotient_65 (by decide) (fun c_14 => ?_) (fun c_14 => absurd c_14 (by decide))
        refine lv_lload hx hb dX0_roundedQuotient_73 (lv_at hl 0 rfl) ?_
        refine lv_lneg hx hb dX0_roundedQuotient_75 ?_
        exact g_lret hx hb hr hlocks (by rw [jrq, if_neg c_1, if_neg c_9, if_pos c_13]) dX0_roundedQuotient_76
      · refine lv_iconst (v := 1) hx hb dX0_roundedQuotient_60 (by decide) ?_
        refine lv_goto (tgt := 65) hx hb dX0_roundedQuotient_61 (by decide) ?_
        refine lv_icmp_ne (tgt := 73) hx hb dX0_roundedQuotient_65 (by decide) (fun c_15 => absurd c_15 (by decide)) (fun c_15 => ?_)
        refine lv_lload hx hb dX0_roundedQuotient_68 (lv_at hl 0 rfl) ?_
        refine lv_goto (tgt := 76) hx hb dX0_roundedQuotient_70 (by decide) ?_
        exact g_lret hx hb hr hlocks (by rw [jrq, if_neg c_1, if_neg c_9, if_neg c_13]) dX0_roundedQuotient_76
def jlimited (v : Int64) : String ⊕ Int64 :=
  if (jX0_isNumber v) = (0 : Int32) then
    .inl gAE
  else .inr v
set_option maxHeartbeats 4000000 in
set_option maxRecDepth 100000 in
theorem tX0_limited (l : Launch) (hnt : l.stackTraces = false) (t : Nat) (v : Int64) : gSlX l yX0_limited cX0_limited 2 { frames := 6, cells := 1, slots := 6, locals := 90 } t [.long v] (fun z9 => jlimited v = .inr z9) (fun E9 => jlimited v = .inl E9) := by
  refine g_openX (by decide +kernel) (Nat.le_of_ble_eq_true rfl) ?_
  intro p e s m below meth c ls S hr hlocks hout hE hl
  obtain ⟨hx, hb, hml, hown, hts⟩ := id S
  have hs : ∀ w ∈ gws, w ∈ Cond.code yX0_limited cX0_limited 2 (some .long) :: gws := fun w h => List.mem_cons_of_mem _ h
  have hA : ∀ q, s.heap.size ≤ q → gN s.heap.size q := fun _ h => h
  have hS : va_S (gN s.heap.size) s.heap s.heap [] := va_S.rf
  have hl : lv_has ls 2 [(0, .long v)] := hl
  refine lv_lload_n hx hb dX0_limited_0 rfl (lv_at hl 0 rfl) ?_
  refine g_callSi S hs (tX0_isNumber l t v) ml_X0_17 st_yX0_isNumber in_X0 cd_yX0_isNumber hd_yX0_isNumber ⟨by decide, by decide⟩ hE hS hA hl.1 rfl (Nat.le_of_ble_eq_true rfl) ⟨by decide, by decide⟩ dX0_limited_1 (fun r_1 hr_1 => ?_)
  subst hr_1
  refine lv_if_ne (tgt := 15) hx hb dX0_limited_4 (by decide) (fun c_2 => ?_) (fun c_2 => ?_)
  · refine lv_lload_n hx hb dX0_limited_15 rfl (lv_at hl 0 rfl) ?_
    exact vx_ret (W.widen (by decide) (by decide) (g_lret hx hb hr hlocks (by rw [jlimited, if_neg c_2]) dX0_limited_16))
  · exact g_throw S hs hnt (by decide +kernel) cl_X0_51 in_ArithmeticException gt_AE1 gt_AE2 gt_AE3 hE hS hl.1 dX0_limited_7 dX0_limited_10 dX0_limited_11 dX0_limited_14 hout hlocks (by decide) (Nat.le_of_ble_eq_true rfl) (by decide) (by decide) (fun _ h => h) (by decide) (by decide) (fun t9 hF9 _ _ => ⟨(), trivial, (show jlimited v = .inl gAE from by rw [jlimited, if_pos c_2]), hF9⟩)
def jprodS (x : Int64) (y : Int64) : String ⊕ Int64 :=
  if (x / (10000 : Int64)) = (0 : Int64) then
    .inr (((x / (10000 : Int64)) * y) + (jrq ((x - x / (10000 : Int64) * (10000 : Int64)) * y) (10000 : Int64)))
  else if y ≤ ((900000000000000 : Int64) / (x / (10000 : Int64))) then
    .inr (((x / (10000 : Int64)) * y) + (jrq ((x - x / (10000 : Int64) * (10000 : Int64)) * y) (10000 : Int64)))
  else .inl gAE
set_option maxHeartbeats 4000000 in
set_option maxRecDepth 100000 in
theorem tX0_productOfSizes (l : Launch) (hnt : l.stackTraces = false) (t : Nat) (x : Int64) (y : Int64) : gSlX l yX0_productOfSizes cX0_productOfSizes 6 { frames := 6, cells := 1, slots := 6, locals := 90 } t [.long x, .long y] (fun z9 => jprodS x y = .inr z9) (fun E9 => jprodS x y = .inl E9) := by
  refine g_openX (by decide +kernel) (Nat.le_of_ble_eq_true rfl) ?_
  intro p e s m below meth c ls S hr hlocks hout hE hl
  obtain ⟨hx, hb, hml, hown, hts⟩ := id S
  have hs : ∀ w ∈ gws, w ∈ Cond.code yX0_productOfSizes cX0_productOfSizes 6 (some .long) :: gws := fun w h => List.mem_cons_of_mem _ h
  have hA : ∀ q, s.heap.size ≤ q → gN s.heap.size q := fun _ h => h
  have hS : va_S (gN s.heap.size) s.heap s.heap [] := va_S.rf
  have hl : lv_has ls 6 [(0, .long x), (2, .long y)] := hl
  refine lv_lload_n hx hb dX0_productOfSizes_0 rfl (lv_at hl 0 rfl) ?_
  refine lv_ldc2 hx hb hown (hts _ (hs _ kl_X0_60)) dX0_productOfSizes_1 ?_
  refine lv_ldiv hx hb dX0_productOfSizes_4 (by decide) ?_
  refine lv_lstore (lv' := [(4, .long (x / (10000 : Int64))), (0, .long x), (2, .long y)]) hx hb dX0_productOfSizes_5 hl (by decide) rfl (fun ls hl => ?_)
  refine lv_lload hx hb dX0_productOfSizes_7 (lv_at hl 0 rfl) ?_
  refine lv_lconst (v := 0) hx hb dX0_productOfSizes_9 (by decide) ?_
  refine g_lc_eq (tgt := 33) hx hb dX0_productOfSizes_10 dX0_productOfSizes_11 (by decide) (fun c_1 => ?_) (fun c_1 => ?_)
  · refine lv_lload hx hb dX0_productOfSizes_33 (lv_at hl 0 rfl) ?_
    refine lv_lload_n hx hb dX0_productOfSizes_35 rfl (lv_at hl 2 rfl) ?_
    refine lv_lmul hx hb dX0_productOfSizes_36 ?_
    refine lv_lload_n hx hb dX0_productOfSizes_37 rfl (lv_at hl 1 rfl) ?_
    refine lv_ldc2 hx hb hown (hts _ (hs _ kl_X0_60)) dX0_productOfSizes_38 ?_
    refine lv_lrem hx hb dX0_productOfSizes_41 (by decide) ?_
    refine lv_lload_n hx hb dX0_productOfSizes_42 rfl (lv_at hl 2 rfl) ?_
    refine lv_lmul hx hb dX0_productOfSizes_43 ?_
    refine lv_ldc2 hx hb hown (hts _ (hs _ kl_X0_60)) dX0_productOfSizes_44 ?_
    refine g_callSl S hs (tX0_roundedQuotient l t ((x - x / (10000 : Int64) * (10000 : Int64)) * y) (10000 : Int64) (by decide)) ml_X0_39 st_yX0_roundedQuotient in_X0 cd_yX0_roundedQuotient hd_yX0_roundedQuotient ⟨by decide, by decide⟩ hE hS hA hl.1 rfl (Nat.le_of_ble_eq_true rfl) ⟨by decide, by decide⟩ dX0_productOfSizes_47 (fun r_2 hr_2 => ?_)
    subst hr_2
    refine lv_ladd hx hb dX0_productOfSizes_50 ?_
    exact vx_ret (W.widen (by decide) (by decide) (g_lret hx hb hr hlocks (by rw [jprodS, if_pos c_1]) dX0_productOfSizes_51))
  · refine lv_lload_n hx hb dX0_productOfSizes_14 rfl (lv_at hl 2 rfl) ?_
    refine lv_ldc2 hx hb hown (hts _ (hs _ kl_X0_49)) dX0_productOfSizes_15 ?_
    refine lv_lload hx hb dX0_productOfSizes_18 (lv_at hl 0 rfl) ?_
    refine lv_ldiv hx hb dX0_productOfSizes_20 (c_1) ?_
    refine g_lc_le (tgt := 33) hx hb dX0_productOfSizes_21 dX0_productOfSizes_22 (by decide) (fun c_3 => ?_) (fun c_3 => ?_)
    · refine lv_lload hx hb dX0_productOfSizes_33 (lv_at hl 0 rfl) ?_
      refine lv_lload_n hx hb dX0_productOfSizes_35 rfl (lv_at hl 2 rfl) ?_
      refine lv_lmul hx hb dX0_productOfSizes_36 ?_
      refine lv_lload_n hx hb dX0_productOfSizes_37 rfl (lv_at hl 1 rfl) ?_
      refine lv_ldc2 hx hb hown (hts _ (hs _ kl_X0_60)) dX0_productOfSizes_38 ?_
      refine lv_lrem hx hb dX0_productOfSizes_41 (by decide) ?_
      refine lv_lload_n hx hb dX0_productOfSizes_42 rfl (lv_at hl 2 rfl) ?_
      refine lv_lmul hx hb dX0_productOfSizes_43 ?_
      refine lv_ldc2 hx hb hown (hts _ (hs _ kl_X0_60)) dX0_productOfSizes_44 ?_
      refine g_callSl S hs (tX0_roundedQuotient l t ((x - x / (10000 : Int64) * (10000 : Int64)) * y) (10000 : Int64) (by decide)) ml_X0_39 st_yX0_roundedQuotient in_X0 cd_yX0_roundedQuotient hd_yX0_roundedQuotient ⟨by decide, by decide⟩ hE hS hA hl.1 rfl (Nat.le_of_ble_eq_true rfl) ⟨by decide, by decide⟩ dX0_productOfSizes_47 (fun r_4 hr_4 => ?_)
      subst hr_4
      refine lv_ladd hx hb dX0_productOfSizes_50 ?_
      exact vx_ret (W.widen (by decide) (by decide) (g_lret hx hb hr hlocks (by rw [jprodS, if_neg c_1, if_pos c_3]) dX0_productOfSizes_51))
    · exact g_throw S hs hnt (by decide +kernel) cl_X0_51 in_ArithmeticException gt_AE1 gt_AE2 gt_AE3 hE hS hl.1 dX0_productOfSizes_25 dX0_productOfSizes_28 dX0_productOfSizes_29 dX0_productOfSizes_32 hout hlocks (by decide) (Nat.le_of_ble_eq_true rfl) (by decide) (by decide) (fun _ h => h) (by decide) (by decide) (fun t9 hF9 _ _ => ⟨(), trivial, (show jprodS x y = .inl gAE from by rw [jprodS, if_neg c_1, if_neg c_3]), hF9⟩)
def jprod (x : Int64) (y : Int64) : String ⊕ Int64 :=
  jbind (jprodS (jabs x) (jabs y)) fun r_1 =>
    if (0 : Int64) ≤ x then
      if (0 : Int64) ≤ y then
        .inr r_1
      else .inr (-r_1)
    else if (0 : Int64) ≤ y then
      .inr (-r_1)
    else .inr r_1
set_option maxHeartbeats 4000000 in
set_option maxRecDepth 100000 in
theorem tX0_product (l : Launch) (hnt : l.stackTraces = false) (t : Nat) (x : Int64) (y : Int64) : gSlX l yX0_product cX0_product 6 { frames := 7, cells := 1, slots := 6, locals := 120 } t [.long x, .long y] (fun z9 => jprod x y = .inr z9) (fun E9 => jprod x y = .inl E9) := by
  refine g_openX (by decide +kernel) (Nat.le_of_ble_eq_true rfl) ?_
  intro p e s m below meth c ls S hr hlocks hout hE hl
  obtain ⟨hx, hb, hml, hown, hts⟩ := id S
  have hs : ∀ w ∈ gws, w ∈ Cond.code yX0_product cX0_product 6 (some .long) :: gws := fun w h => List.mem_cons_of_mem _ h
  have hA : ∀ q, s.heap.size ≤ q → gN s.heap.size q := fun _ h => h
  have hS : va_S (gN s.heap.size) s.heap s.heap [] := va_S.rf
  have hl : lv_has ls 6 [(0, .long x), (2, .long y)] := hl
  refine lv_lload_n hx hb dX0_product_0 rfl (lv_at hl 0 rfl) ?_
  refine g_abs hx hb (by rw [hml]; exact hl.1.symm) hown (hts _ (hs _ ml_X0_72)) (hts _ (hs _ st_yJ9_abs_067f4)) (hts _ (hs _ in_J9)) (hts _ (hs _ cd_yJ9_abs_067f4)) (by decide) (Nat.le_of_ble_eq_true rfl) (by decide) (by decide) dX0_product_1 ?_
  refine lv_lload_n hx hb dX0_product_4 rfl (lv_at hl 1 rfl) ?_
  refine g_abs hx hb (by rw [hml]; exact hl.1.symm) hown (hts _ (hs _ ml_X0_72)) (hts _ (hs _ st_yJ9_abs_067f4)) (hts _ (hs _ in_J9)) (hts _ (hs _ cd_yJ9_abs_067f4)) (by decide) (Nat.le_of_ble_eq_true rfl) (by decide) (by decide) dX0_product_5 ?_
  refine g_callSlX S hs (tX0_productOfSizes l hnt t (jabs x) (jabs y)) ml_X0_75 st_yX0_productOfSizes in_X0 cd_yX0_productOfSizes hd_yX0_productOfSizes ⟨by decide, by decide⟩ hE hS hA hl.1 rfl (Nat.le_of_ble_eq_true rfl) ⟨by decide, by decide⟩ dX0_product_8 hout hlocks (fun _ h => h) (by decide) (by decide) (fun E9 hx9 t9 hF9 _ _ => ⟨(), trivial, (show jprod x y = .inl E9 from by rw [jprod, hx9, jbind_inl]), hF9⟩) (fun r_1 hr_1 => ?_)
  refine lv_lstore (lv' := [(4, .long r_1), (0, .long x), (2, .long y)]) hx hb dX0_product_11 hl (by decide) rfl (fun ls hl => ?_)
  refine lv_lload_n hx hb dX0_product_13 rfl (lv_at hl 1 rfl) ?_
  refine lv_lconst (v := 0) hx hb dX0_product_14 (by decide) ?_
  refine g_lc_ge (tgt := 23) hx hb dX0_product_15 dX0_product_16 (by decide) (fun c_2 => ?_) (fun c_2 => ?_)
  · refine lv_iconst (v := 0) hx hb dX0_product_23 (by decide) ?_
    refine lv_lload_n hx hb dX0_product_24 rfl (lv_at hl 2 rfl) ?_
    refine lv_lconst (v := 0) hx hb dX0_product_25 (by decide) ?_
    refine g_lc_ge (tgt := 34) hx hb dX0_product_26 dX0_product_27 (by decide) (fun c_3 => ?_) (fun c_3 => ?_)
    · refine lv_iconst (v := 0) hx hb dX0_product_34 (by decide) ?_
      refine lv_icmp_ne (tgt := 43) hx hb dX0_product_35 (by decide) (fun c_4 => absurd c_4 (by decide)) (fun c_4 => ?_)
      refine lv_lload hx hb dX0_product_38 (lv_at hl 0 rfl) ?_
      refine lv_goto (tgt := 46) hx hb dX0_product_40 (by decide) ?_
      exact vx_ret (W.widen (by decide) (by decide) (g_lret hx hb hr hlocks (by rw [jprod, hr_1, jbind_inr, if_pos c_2, if_pos c_3]) dX0_product_46))
    · refine lv_iconst (v := 1) hx hb dX0_product_30 (by decide) ?_
      refine lv_goto (tgt := 35) hx hb dX0_product_31 (by decide) ?_
      refine lv_icmp_ne (tgt := 43) hx hb dX0_product_35 (by decide) (fun c_5 => ?_) (fun c_5 => absurd c_5 (by decide))
      refine lv_lload hx hb dX0_product_43 (lv_at hl 0 rfl) ?_
      refine lv_lneg hx hb dX0_product_45 ?_
      exact vx_ret (W.widen (by decide) (by decide) (g_lret hx hb hr hlocks (by rw [jprod, hr_1, jbind_inr, if_pos c_2, if_neg c_3]) dX0_product_46))
  · refine lv_iconst (v := 1) hx hb dX0_product_19 (by decide) ?_
    refine lv_goto (tgt := 24) hx hb dX0_product_20 (by decide) ?_
    refine lv_lload_n hx hb dX0_product_24 rfl (lv_at hl 2 rfl) ?_
    refine lv_lconst (v := 0) hx hb dX0_product_25 (by decide) ?_
    refine g_lc_ge (tgt := 34) hx hb dX0_product_26 dX0_product_27 (by decide) (fun c_6 => ?_) (fun c_6 => ?_)
    · refine lv_iconst (v := 0) hx hb dX0_product_34 (by decide) ?_
      refine lv_icmp_ne (tgt := 43) hx hb dX0_product_35 (by decide) (fun c_7 => ?_) (fun c_7 => absurd c_7 (by decide))
      refine lv_lload hx hb dX0_product_43 (lv_at hl 0 rfl) ?_
      refine lv_lneg hx hb dX0_product_45 ?_
      exact vx_ret (W.widen (by decide) (by decide) (g_lret hx hb hr hlocks (by rw [jprod, hr_1, jbind_inr, if_neg c_2, if_pos c_6]) dX0_product_46))
    · refine lv_iconst (v := 1) hx hb dX0_product_30 (by decide) ?_
      refine lv_goto (tgt := 35) hx hb dX0_product_31 (by decide) ?_
      refine lv_icmp_ne (tgt := 43) hx hb dX0_product_35 (by decide) (fun c_8 => absurd c_8 (by decide)) (fun c_8 => ?_)
      refine lv_lload hx hb dX0_product_38 (lv_at hl 0 rfl) ?_
      refine lv_goto (tgt := 46) hx hb dX0_product_40 (by decide) ?_
      exact vx_ret (W.widen (by decide) (by decide) (g_lret hx hb hr hlocks (by rw [jprod, hr_1, jbind_inr, if_neg c_2, if_neg c_6]) dX0_product_46))
def jreckoned (op : Int32) (x : Int64) (y : Int64) : String ⊕ Int64 :=
  if y = (0 : Int64) then
    if op = (3 : Int32) then
      .inl gUOE
    else if op = (4 : Int32) then
      .inl gUOE
    else if op = (0 : Int32) then
      .inr (x + y)
    else if op = (1 : Int32) then
      .inr (x - y)
    else if op = (2 : Int32) then
      jbind (jprod x y) fun r_14 =>
        .inr r_14
    else .inr (jfloorMod x y)
  else if op = (0 : Int32) then
    .inr (x + y)
  else if op = (1 : Int32) then
    .inr (x - y)
  else if op = (2 : Int32) then
    jbind (jprod x y) fun r_5 =>
      .inr r_5
  else if op = (3 : Int32) then
    .inr (jrq (x * (10000 : Int64)) y)
  else .inr (jfloorMod x y)
set_option maxHeartbeats 4000000 in
set_option maxRecDepth 100000 in
theorem tX0_reckoned (l : Launch) (hnt : l.stackTraces = false) (t : Nat) (op : Int32) (x : Int64) (y : Int64) (hop : op = 0 ∨ op = 1 ∨ op = 2 ∨ op = 3 ∨ op = 4) : gSlX l yX0_reckoned cX0_reckoned 5 { frames := 8, cells := 1, slots := 6, locals := 150 } t [.int op, .long x, .long y] (fun z9 => jreckoned op x y = .inr z9) (fun E9 => jreckoned op x y = .inl E9) := by
  refine g_openX (by decide +kernel) (Nat.le_of_ble_eq_true rfl) ?_
  intro p e s m below meth c ls S hr hlocks hout hE hl
  obtain ⟨hx, hb, hml, hown, hts⟩ := id S
  have hs : ∀ w ∈ gws, w ∈ Cond.code yX0_reckoned cX0_reckoned 5 (some .long) :: gws := fun w h => List.mem_cons_of_mem _ h
  have hA : ∀ q, s.heap.size ≤ q → gN s.heap.size q := fun _ h => h
  have hS : va_S (gN s.heap.size) s.heap s.heap [] := va_S.rf
  have hl : lv_has ls 5 [(0, .int op), (1, .long x), (3, .long y)] := hl
  refine lv_lload_n hx hb dX0_reckoned_0 rfl (lv_at hl 2 rfl) ?_
  refine lv_lconst (v := 0) hx hb dX0_reckoned_1 (by decide) ?_
  refine g_lc_ne (tgt := 24) hx hb dX0_reckoned_2 dX0_reckoned_3 (by decide) (fun c_1 => ?_) (fun c_1 => ?_)
  · refine lv_iload_n hx hb dX0_reckoned_24 rfl (lv_at hl 0 rfl) ?_
    by_cases c_2 : op = (0 : Int32)
    · refine lv_tableIn (off := 31) (tgt := 56) hx hb dX0_reckoned_25 (by rw [c_2]; decide) (by rw [c_2]; decide) (by rw [c_2]; rfl) (by decide) ?_
      refine lv_lload_n hx hb dX0_reckoned_56 rfl (lv_at hl 1 rfl) ?_
      refine lv_lload_n hx hb dX0_reckoned_57 rfl (lv_at hl 2 rfl) ?_
      refine lv_ladd hx hb dX0_reckoned_58 ?_
      exact vx_ret (W.widen (by decide) (by decide) (g_lret hx hb hr hlocks (by rw [jreckoned, if_neg c_1, if_pos c_2]) dX0_reckoned_59))
    · by_cases c_3 : op = (1 : Int32)
      · refine lv_tableIn (off := 35) (tgt := 60) hx hb dX0_reckoned_25 (by rw [c_3]; decide) (by rw [c_3]; decide) (by rw [c_3]; rfl) (by decide) ?_
        refine lv_lload_n hx hb dX0_reckoned_60 rfl (lv_at hl 1 rfl) ?_
        refine lv_lload_n hx hb dX0_reckoned_61 rfl (lv_at hl 2 rfl) ?_
        refine lv_lsub hx hb dX0_reckoned_62 ?_
        exact vx_ret (W.widen (by decide) (by decide) (g_lret hx hb hr hlocks (by rw [jreckoned, if_neg c_1, if_neg c_2, if_pos c_3]) dX0_reckoned_63))
      · by_cases c_4 : op = (2 : Int32)
        · refine lv_tableIn (off := 39) (tgt := 64) hx hb dX0_reckoned_25 (by rw [c_4]; decide) (by rw [c_4]; decide) (by rw [c_4]; rfl) (by decide) ?_
          refine lv_lload_n hx hb dX0_reckoned_64 rfl (lv_at hl 1 rfl) ?_
          refine lv_lload_n hx hb dX0_reckoned_65 rfl (lv_at hl 2 rfl) ?_
          refine g_callSlX S hs (tX0_product l hnt t x y) ml_X0_57 st_yX0_product in_X0 cd_yX0_product hd_yX0_product ⟨by decide, by decide⟩ hE hS hA hl.1 rfl (Nat.le_of_ble_eq_true rfl) ⟨by decide, by decide⟩ dX0_reckoned_66 hout hlocks (fun _ h => h) (by decide) (by decide) (fun E9 hx9 t9 hF9 _ _ => ⟨(), trivial, (show jreckoned op x y = .inl E9 from by rw [jreckoned, if_neg c_1, if_neg c_2, if_neg c_3, if_pos c_4, hx9, jbind_inl]), hF9⟩) (fun r_5 hr_5 => ?_)
          exact vx_ret (W.widen (by decide) (by decide) (g_lret hx hb hr hlocks (by rw [jreckoned, if_neg c_1, if_neg c_2, if_neg c_3, if_pos c_4, hr_5, jbind_inr]) dX0_reckoned_69))
        · by_cases c_6 : op = (3 : Int32)
          · refine lv_tableIn (off := 45) (tgt := 70) hx hb dX0_reckoned_25 (by rw [c_6]; decide) (by rw [c_6]; decide) (by rw [c_6]; rfl) (by decide) ?_
            refine lv_lload_n hx hb dX0_reckoned_70 rfl (lv_at hl 1 rfl) ?_
            refine lv_ldc2 hx hb hown (hts _ (hs _ kl_X0_60)) dX0_reckoned_71 ?_
            refine lv_lmul hx hb dX0_reckoned_74 ?_
            refine lv_lload_n hx hb dX0_reckoned_75 rfl (lv_at hl 2 rfl) ?_
            refine g_callSl S hs (tX0_roundedQuotient l t (x * (10000 : Int64)) y (jabs_ne c_1)) ml_X0_39 st_yX0_roundedQuotient in_X0 cd_yX0_roundedQuotient hd_yX0_roundedQuotient ⟨by decide, by decide⟩ hE hS hA hl.1 rfl (Nat.le_of_ble_eq_true rfl) ⟨by decide, by decide⟩ dX0_reckoned_76 (fun r_7 hr_7 => ?_)
            subst hr_7
            exact vx_ret (W.widen (by decide) (by decide) (g_lret hx hb hr hlocks (by rw [jreckoned, if_neg c_1, if_neg c_2, if_neg c_3, if_neg c_4, if_pos c_6]) dX0_reckoned_79))
          · refine lv_tableOut (tgt := 80) hx hb dX0_reckoned_25 (g_out4 c_2 c_3 c_4 c_6) (by decide) ?_
            refine lv_lload_n hx hb dX0_reckoned_80 rfl (lv_at hl 1 rfl) ?_
            refine lv_lload_n hx hb dX0_reckoned_81 rfl (lv_at hl 2 rfl) ?_
            refine g_callSl S hs (tJ9_floorMod_f86c9 l t x y (by first | exact c_1 | (exfalso; rcases hop with h | h | h | h | h <;> simp_all))) ml_X0_62 st_yJ9_floorMod_f86c9 in_J9 cd_yJ9_floorMod_f86c9 hd_yJ9_floorMod_f86c9 ⟨by decide, by decide⟩ hE hS hA hl.1 rfl (Nat.le_of_ble_eq_true rfl) ⟨by decide, by decide⟩ dX0_reckoned_82 (fun r_8 hr_8 => ?_)
            subst hr_8
            exact vx_ret (W.widen (by decide) (by decide) (g_lret hx hb hr hlocks (by rw [jreckoned, if_neg c_1, if_neg c_2, if_neg c_3, if_neg c_4, if_neg c_6]) dX0_reckoned_85))
  · refine lv_iload_n hx hb dX0_reckoned_6 rfl (lv_at hl 0 rfl) ?_
    refine lv_iconst (v := 3) hx hb dX0_reckoned_7 (by decide) ?_
    refine lv_icmp_eq (tgt := 16) hx hb dX0_reckoned_8 (by decide) (fun c_9 => ?_) (fun c_9 => ?_)
    · exact g_throw S hs hnt (by decide +kernel) cl_X0_54 in_UnsupportedOperationException gt_UOE1 gt_UOE2 gt_UOE3 hE hS hl.1 dX0_reckoned_16 dX0_reckoned_19 dX0_reckoned_20 dX0_reckoned_23 hout hlocks (by decide) (Nat.le_of_ble_eq_true rfl) (by decide) (by decide) (fun _ h => h) (by decide) (by decide) (fun t9 hF9 _ _ => ⟨(), trivial, (show jreckoned op x y = .inl gUOE from by rw [jreckoned, if_pos c_1, if_pos c_9]), hF9⟩)
    · refine lv_iload_n hx hb dX0_reckoned_11 rfl (lv_at hl 0 rfl) ?_
      refine lv_iconst (v := 4) hx hb dX0_reckoned_12 (by decide) ?_
      refine lv_icmp_ne (tgt := 24) hx hb dX0_reckoned_13 (by decide) (fun c_10 => ?_) (fun c_10 => ?_)
      · refine lv_iload_n hx hb dX0_reckoned_24 rfl (lv_at hl 0 rfl) ?_
        by_cases c_11 : op = (0 : Int32)
        · refine lv_tableIn (off := 31) (tgt := 56) hx hb dX0_reckoned_25 (by rw [c_11]; decide) (by rw [c_11]; decide) (by rw [c_11]; rfl) (by decide) ?_
          refine lv_lload_n hx hb dX0_reckoned_56 rfl (lv_at hl 1 rfl) ?_
          refine lv_lload_n hx hb dX0_reckoned_57 rfl (lv_at hl 2 rfl) ?_
          refine lv_ladd hx hb dX0_reckoned_58 ?_
          exact vx_ret (W.widen (by decide) (by decide) (g_lret hx hb hr hlocks (by rw [jreckoned, if_pos c_1, if_neg c_9, if_neg c_10, if_pos c_11]) dX0_reckoned_59))
        · by_cases c_12 : op = (1 : Int32)
          · refine lv_tableIn (off := 35) (tgt := 60) hx hb dX0_reckoned_25 (by rw [c_12]; decide) (by rw [c_12]; decide) (by rw [c_12]; rfl) (by decide) ?_
            refine lv_lload_n hx hb dX0_reckoned_60 rfl (lv_at hl 1 rfl) ?_
            refine lv_lload_n hx hb dX0_reckoned_61 rfl (lv_at hl 2 rfl) ?_
            refine lv_lsub hx hb dX0_reckoned_62 ?_
            exact vx_ret (W.widen (by decide) (by decide) (g_lret hx hb hr hlocks (by rw [jreckoned, if_pos c_1, if_neg c_9, if_neg c_10, if_neg c_11, if_pos c_12]) dX0_reckoned_63))
          · by_cases c_13 : op = (2 : Int32)
            · refine lv_tableIn (off := 39) (tgt := 64) hx hb dX0_reckoned_25 (by rw [c_13]; decide) (by rw [c_13]; decide) (by rw [c_13]; rfl) (by decide) ?_
              refine lv_lload_n hx hb dX0_reckoned_64 rfl (lv_at hl 1 rfl) ?_
              refine lv_lload_n hx hb dX0_reckoned_65 rfl (lv_at hl 2 rfl) ?_
              refine g_callSlX S hs (tX0_product l hnt t x y) ml_X0_57 st_yX0_product in_X0 cd_yX0_product hd_yX0_product ⟨by decide, by decide⟩ hE hS hA hl.1 rfl (Nat.le_of_ble_eq_true rfl) ⟨by decide, by decide⟩ dX0_reckoned_66 hout hlocks (fun _ h => h) (by decide) (by decide) (fun E9 hx9 t9 hF9 _ _ => ⟨(), trivial, (show jreckoned op x y = .inl E9 from by rw [jreckoned, if_pos c_1, if_neg c_9, if_neg c_10, if_neg c_11, if_neg c_12, if_pos c_13, hx9, jbind_inl]), hF9⟩) (fun r_14 hr_14 => ?_)
              exact vx_ret (W.widen (by decide) (by decide) (g_lret hx hb hr hlocks (by rw [jreckoned, if_pos c_1, if_neg c_9, if_neg c_10, if_neg c_11, if_neg c_12, if_pos c_13, hr_14, jbind_inr]) dX0_reckoned_69))
            · refine lv_tableOut (tgt := 80) hx hb dX0_reckoned_25 (g_out4 c_11 c_12 c_13 c_9) (by decide) ?_
              refine lv_lload_n hx hb dX0_reckoned_80 rfl (lv_at hl 1 rfl) ?_
              refine lv_lload_n hx hb dX0_reckoned_81 rfl (lv_at hl 2 rfl) ?_
              refine g_callSl S hs (tJ9_floorMod_f86c9 l t x y (by first | exact c_1 | (exfalso; rcases hop with h | h | h | h | h <;> simp_all))) ml_X0_62 st_yJ9_floorMod_f86c9 in_J9 cd_yJ9_floorMod_f86c9 hd_yJ9_floorMod_f86c9 ⟨by decide, by decide⟩ hE hS hA hl.1 rfl (Nat.le_of_ble_eq_true rfl) ⟨by decide, by decide⟩ dX0_reckoned_82 (fun r_16 hr_16 => ?_)
              subst hr_16
              exact vx_ret (W.widen (by decide) (by decide) (g_lret hx hb hr hlocks (by rw [jreckoned, if_pos c_1, if_neg c_9, if_neg c_10, if_neg c_11, if_neg c_12, if_neg c_13]) dX0_reckoned_85))
      · exact g_throw S hs hnt (by decide +kernel) cl_X0_54 in_UnsupportedOperationException gt_UOE1 gt_UOE2 gt_UOE3 hE hS hl.1 dX0_reckoned_16 dX0_reckoned_19 dX0_reckoned_20 dX0_reckoned_23 hout hlocks (by decide) (Nat.le_of_ble_eq_true rfl) (by decide) (by decide) (fun _ h => h) (by decide) (by decide) (fun t9 hF9 _ _ => ⟨(), trivial, (show jreckoned op x y = .inl gUOE from by rw [jreckoned, if_pos c_1, if_neg c_9, if_pos c_10]), hF9⟩)
def jturned (op : Int32) (x : Int64) : Int64 :=
  if op = (0 : Int32) then
    jrq x (100 : Int64)
  else if op = (1 : Int32) then
    (jfloorDiv x (10000 : Int64)) * (10000 : Int64)
  else if op = (2 : Int32) then
    jabs x
  else -x
set_option maxHeartbeats 4000000 in
set_option maxRecDepth 100000 in
theorem tX0_turned (l : Launch) (t : Nat) (op : Int32) (x : Int64) : gSl l yX0_turned cX0_turned 3 { frames := 3, cells := 0, slots := 0, locals := 80 } t [.int op, .long x] (fun z9 => z9 = jturned op x) := by
  refine g_openl (by decide +kernel) (Nat.le_of_ble_eq_true rfl) ?_
  intro p e s m below meth c ls S hr hlocks hE hl
  obtain ⟨hx, hb, hml, hown, hts⟩ := id S
  have hs : ∀ w ∈ gws, w ∈ Cond.code yX0_turned cX0_turned 3 (some .long) :: gws := fun w h => List.mem_cons_of_mem _ h
  have hA : ∀ q, s.heap.size ≤ q → gN s.heap.size q := fun _ h => h
  have hS : va_S (gN s.heap.size) s.heap s.heap [] := va_S.rf
  have hl : lv_has ls 3 [(0, .int op), (1, .long x)] := hl
  refine lv_iload_n hx hb dX0_turned_0 rfl (lv_at hl 0 rfl) ?_
  by_cases c_1 : op = (0 : Int32)
  · refine lv_tableIn (off := 27) (tgt := 28) hx hb dX0_turned_1 (by rw [c_1]; decide) (by rw [c_1]; decide) (by rw [c_1]; rfl) (by decide) ?_
    refine lv_lload_n hx hb dX0_turned_28 rfl (lv_at hl 1 rfl) ?_
    refine lv_ldc2 hx hb hown (hts _ (hs _ kl_X0_67)) dX0_turned_29 ?_
    refine g_callSl S hs (tX0_roundedQuotient l t x (100 : Int64) (by decide)) ml_X0_39 st_yX0_roundedQuotient in_X0 cd_yX0_roundedQuotient hd_yX0_roundedQuotient ⟨by decide, by decide⟩ hE hS hA hl.1 rfl (Nat.le_of_ble_eq_true rfl) ⟨by decide, by decide⟩ dX0_turned_32 (fun r_2 hr_2 => ?_)
    subst hr_2
    exact g_lret hx hb hr hlocks (by rw [jturned, if_pos c_1]) dX0_turned_35
  · by_cases c_3 : op = (1 : Int32)
    · refine lv_tableIn (off := 35) (tgt := 36) hx hb dX0_turned_1 (by rw [c_3]; decide) (by rw [c_3]; decide) (by rw [c_3]; rfl) (by decide) ?_
      refine lv_lload_n hx hb dX0_turned_36 rfl (lv_at hl 1 rfl) ?_
      refine lv_ldc2 hx hb hown (hts _ (hs _ kl_X0_60)) dX0_turned_37 ?_
      refine g_callSl S hs (tJ9_floorDiv_f86c9 l t x (10000 : Int64) (by decide)) ml_X0_69 st_yJ9_floorDiv_f86c9 in_J9 cd_yJ9_floorDiv_f86c9 hd_yJ9_floorDiv_f86c9 ⟨by decide, by decide⟩ hE hS hA hl.1 rfl (Nat.le_of_ble_eq_true rfl) ⟨by decide, by decide⟩ dX0_turned_40 (fun r_4 hr_4 => ?_)
      subst hr_4
      refine lv_ldc2 hx hb hown (hts _ (hs _ kl_X0_60)) dX0_turned_43 ?_
      refine lv_lmul hx hb dX0_turned_46 ?_
      exact g_lret hx hb hr hlocks (by rw [jturned, if_neg c_1, if_pos c_3]) dX0_turned_47
    · by_cases c_5 : op = (2 : Int32)
      · refine lv_tableIn (off := 47) (tgt := 48) hx hb dX0_turned_1 (by rw [c_5]; decide) (by rw [c_5]; decide) (by rw [c_5]; rfl) (by decide) ?_
        refine lv_lload_n hx hb dX0_turned_48 rfl (lv_at hl 1 rfl) ?_
        refine g_abs hx hb (by rw [hml]; exact hl.1.symm) hown (hts _ (hs _ ml_X0_72)) (hts _ (hs _ st_yJ9_abs_067f4)) (hts _ (hs _ in_J9)) (hts _ (hs _ cd_yJ9_abs_067f4)) (by decide) (Nat.le_of_ble_eq_true rfl) (by decide) (by decide) dX0_turned_49 ?_
        exact g_lret hx hb hr hlocks (by rw [jturned, if_neg c_1, if_neg c_3, if_pos c_5]) dX0_turned_52
      · refine lv_tableOut (tgt := 53) hx hb dX0_turned_1 (g_out3 c_1 c_3 c_5) (by decide) ?_
        refine lv_lload_n hx hb dX0_turned_53 rfl (lv_at hl 1 rfl) ?_
        refine lv_lneg hx hb dX0_turned_54 ?_
        exact g_lret hx hb hr hlocks (by rw [jturned, if_neg c_1, if_neg c_3, if_neg c_5]) dX0_turned_55
theorem gP_ne {x : Int32} (h : vp_in x 14) : ¬ gP x.toNatClampNeg = 0 := by
  obtain ⟨j, hj, rfl⟩ := vp_in_of h (by decide)
  rw [nI_clamp (by omega)]
  have key : ∀ j, j < 14 → ¬ gP j = 0 := by decide
  exact key j hj
def jdigit (n : Int64) (place : Int32) : Int32 :=
  (48 : Int32) + (((n / (gP place.toNatClampNeg)) - (n / (gP place.toNatClampNeg)) / (10 : Int64) * (10 : Int64)).toInt32)
set_option maxHeartbeats 4000000 in
set_option maxRecDepth 100000 in
theorem tX0_digit (l : Launch) (t : Nat) (n : Int64) (place : Int32) (hp : vp_in place 14) : gSi l yX0_digit cX0_digit 3 .int { frames := 0, cells := 0, slots := 0, locals := 0 } t [.long n, .int place] (fun z9 => z9 = jdigit n place) := by
  refine g_openi (by decide +kernel) (Nat.le_of_ble_eq_true rfl) ?_
  intro p e s m below meth c ls S hr hlocks hE hl
  obtain ⟨hx, hb, hml, hown, hts⟩ := id S
  have hs : ∀ w ∈ gws, w ∈ Cond.code yX0_digit cX0_digit 3 (some .int) :: gws := fun w h => List.mem_cons_of_mem _ h
  have hA : ∀ q, s.heap.size ≤ q → gN s.heap.size q := fun _ h => h
  have hS : va_S (gN s.heap.size) s.heap s.heap [] := va_S.rf
  have hl : lv_has ls 3 [(0, .long n), (2, .int place)] := hl
  refine lv_bipush (v := 48) hx hb dX0_digit_0 (by decide) ?_
  refine lv_lload_n hx hb dX0_digit_2 rfl (lv_at hl 0 rfl) ?_
  refine va_gets hx hb hE.2.2.2.2.1 hS hown (hts _ (hs _ fl_X0_36)) (fun _ h => h) dX0_digit_3 ?_
  refine lv_iload_n hx hb dX0_digit_6 rfl (lv_at hl 1 rfl) ?_
  refine va_tl hx hb hE.2.2.2.2.2 hS (hp) rfl dX0_digit_7 ?_
  refine lv_ldiv hx hb dX0_digit_8 (gP_ne hp) ?_
  refine lv_ldc2 hx hb hown (hts _ (hs _ kl_X0_88)) dX0_digit_9 ?_
  refine lv_lrem hx hb dX0_digit_12 (by decide) ?_
  refine lv_l2i hx hb dX0_digit_13 rfl ?_
  refine lv_iadd hx hb dX0_digit_14 ?_
  exact g_iret hx hb hr hlocks (by rw [jdigit]) dX0_digit_15
theorem g_ixA {i : Int32} (h0 : ¬ i < 0) (h4 : ¬ (4 : Int32) < i) : vp_in ((4 : Int32) - i) 14 ∧ vp_in ((4 : Int32) - i + (1 : Int32)) 14 := by
  obtain ⟨j, hj, rfl⟩ := nI_of2 (M := 4) (n := 4) rfl h0 (by simpa using h4)
  have key : ∀ j, j < 5 → ¬ ((4 : Int32) - nI j < 0 ∨ 14 ≤ ((4 : Int32) - nI j).toNatClampNeg) ∧ ¬ ((4 : Int32) - nI j + (1 : Int32) < 0 ∨ 14 ≤ ((4 : Int32) - nI j + (1 : Int32)).toNatClampNeg) := by decide
  exact key j (by omega)
def jbehind (fr : Int64) (i : Int32) : Int32 :=
  if (4 : Int32) < i then
    (-1 : Int32)
  else if fr = (0 : Int64) then
    (-1 : Int32)
  else if i = (0 : Int32) then
    (46 : Int32)
  else if (fr - fr / (gP (((4 : Int32) - i) + (1 : Int32)).toNatClampNeg) * (gP (((4 : Int32) - i) + (1 : Int32)).toNatClampNeg)) = (0 : Int64) then
    (-1 : Int32)
  else jdigit fr ((4 : Int32) - i)
set_option maxHeartbeats 4000000 in
set_option maxRecDepth 100000 in
theorem tX0_byteBehindWhole (l : Launch) (t : Nat) (fr : Int64) (i : Int32) (hi : ¬ i < 0) : gSi l yX0_byteBehindWhole cX0_byteBehindWhole 5 .int { frames := 1, cells := 0, slots := 0, locals := 30 } t [.long fr, .int i] (fun z9 => z9 = jbehind fr i) := by
  refine g_openi (by decide +kernel) (Nat.le_of_ble_eq_true rfl) ?_
  intro p e s m below meth c ls S hr hlocks hE hl
  obtain ⟨hx, hb, hml, hown, hts⟩ := id S
  have hs : ∀ w ∈ gws, w ∈ Cond.code yX0_byteBehindWhole cX0_byteBehindWhole 5 (some .int) :: gws := fun w h => List.mem_cons_of_mem _ h
  have hA : ∀ q, s.heap.size ≤ q → gN s.heap.size q := fun _ h => h
  have hS : va_S (gN s.heap.size) s.heap s.heap [] := va_S.rf
  have hl : lv_has ls 5 [(0, .long fr), (2, .int i)] := hl
  refine lv_iload_n hx hb dX0_byteBehindWhole_0 rfl (lv_at hl 1 rfl) ?_
  refine lv_iconst (v := 4) hx hb dX0_byteBehindWhole_1 (by decide) ?_
  refine lv_icmp_gt (tgt := 11) hx hb dX0_byteBehindWhole_2 (by decide) (fun c_1 => ?_) (fun c_1 => ?_)
  · refine lv_iconst (v := (-1)) hx hb dX0_byteBehindWhole_11 (by decide) ?_
    exact g_iret hx hb hr hlocks (by rw [jbehind, if_pos c_1]) dX0_byteBehindWhole_12
  · refine lv_lload_n hx hb dX0_byteBehindWhole_5 rfl (lv_at hl 0 rfl) ?_
    refine lv_lconst (v := 0) hx hb dX0_byteBehindWhole_6 (by decide) ?_
    refine g_lc_ne (tgt := 13) hx hb dX0_byteBehindWhole_7 dX0_byteBehindWhole_8 (by decide) (fun c_2 => ?_) (fun c_2 => ?_)
    · refine lv_iload_n hx hb dX0_byteBehindWhole_13 rfl (lv_at hl 1 rfl) ?_
      refine lv_if_ne (tgt := 20) hx hb dX0_byteBehindWhole_14 (by decide) (fun c_3 => ?_) (fun c_3 => ?_)
      · refine lv_iconst (v := 4) hx hb dX0_byteBehindWhole_20 (by decide) ?_
        refine lv_iload_n hx hb dX0_byteBehindWhole_21 rfl (lv_at hl 1 rfl) ?_
        refine lv_isub hx hb dX0_byteBehindWhole_22 ?_
        refine lv_istore_n (lv' := [(3, .int ((4 : Int32) - i)), (0, .long fr), (2, .int i)]) hx hb dX0_byteBehindWhole_23 rfl hl (by decide) rfl (fun ls hl => ?_)
        refine lv_lload_n hx hb dX0_byteBehindWhole_24 rfl (lv_at hl 1 rfl) ?_
        refine va_gets hx hb hE.2.2.2.2.1 hS hown (hts _ (hs _ fl_X0_36)) (fun _ h => h) dX0_byteBehindWhole_25 ?_
        refine lv_iload_n hx hb dX0_byteBehindWhole_28 rfl (lv_at hl 0 rfl) ?_
        refine lv_iconst (v := 1) hx hb dX0_byteBehindWhole_29 (by decide) ?_
        refine lv_iadd hx hb dX0_byteBehindWhole_30 ?_
        refine va_tl hx hb hE.2.2.2.2.2 hS ((g_ixA hi c_1).2) rfl dX0_byteBehindWhole_31 ?_
        refine lv_lrem hx hb dX0_byteBehindWhole_32 (gP_ne (g_ixA hi c_1).2) ?_
        refine lv_lconst (v := 0) hx hb dX0_byteBehindWhole_33 (by decide) ?_
        refine g_lc_ne (tgt := 42) hx hb dX0_byteBehindWhole_34 dX0_byteBehindWhole_35 (by decide) (fun c_4 => ?_) (fun c_4 => ?_)
        · refine lv_iconst (v := 0) hx hb dX0_byteBehindWhole_42 (by decide) ?_
          refine lv_istore (lv' := [(4, .int (0 : Int32)), (3, .int ((4 : Int32) - i)), (0, .long fr), (2, .int i)]) hx hb dX0_byteBehindWhole_43 hl (by decide) rfl (fun ls hl => ?_)
          refine lv_iload hx hb dX0_byteBehindWhole_45 (lv_at hl 0 rfl) ?_
          refine lv_if_eq (tgt := 54) hx hb dX0_byteBehindWhole_47 (by decide) (fun c_5 => ?_) (fun c_5 => absurd c_5 (by decide))
          refine lv_lload_n hx hb dX0_byteBehindWhole_54 rfl (lv_at hl 2 rfl) ?_
          refine lv_iload_n hx hb dX0_byteBehindWhole_55 rfl (lv_at hl 1 rfl) ?_
          refine g_callSi S hs (tX0_digit l t fr ((4 : Int32) - i) (g_ixA hi c_1).1) ml_X0_82 st_yX0_digit in_X0 cd_yX0_digit hd_yX0_digit ⟨by decide, by decide⟩ hE hS hA hl.1 rfl (Nat.le_of_ble_eq_true rfl) ⟨by decide, by decide⟩ dX0_byteBehindWhole_56 (fun r_6 hr_6 => ?_)
          subst hr_6
          exact g_iret hx hb hr hlocks (by rw [jbehind, if_neg c_1, if_neg c_2, if_neg c_3, if_neg c_4]) dX0_byteBehindWhole_59
        · refine lv_iconst (v := 1) hx hb dX0_byteBehindWhole_38 (by decide) ?_
          refine lv_goto (tgt := 43) hx hb dX0_byteBehindWhole_39 (by decide) ?_
          refine lv_istore (lv' := [(4, .int (1 : Int32)), (3, .int ((4 : Int32) - i)), (0, .long fr), (2, .int i)]) hx hb dX0_byteBehindWhole_43 hl (by decide) rfl (fun ls hl => ?_)
          refine lv_iload hx hb dX0_byteBehindWhole_45 (lv_at hl 0 rfl) ?_
          refine lv_if_eq (tgt := 54) hx hb dX0_byteBehindWhole_47 (by decide) (fun c_7 => absurd c_7 (by decide)) (fun c_7 => ?_)
          refine lv_iconst (v := (-1)) hx hb dX0_byteBehindWhole_50 (by decide) ?_
          refine lv_goto (tgt := 59) hx hb dX0_byteBehindWhole_51 (by decide) ?_
          exact g_iret hx hb hr hlocks (by rw [jbehind, if_neg c_1, if_neg c_2, if_neg c_3, if_pos c_4]) dX0_byteBehindWhole_59
      · refine lv_bipush (v := 46) hx hb dX0_byteBehindWhole_17 (by decide) ?_
        exact g_iret hx hb hr hlocks (by rw [jbehind, if_neg c_1, if_neg c_2, if_pos c_3]) dX0_byteBehindWhole_19
    · refine lv_iconst (v := (-1)) hx hb dX0_byteBehindWhole_11 (by decide) ?_
      exact g_iret hx hb hr hlocks (by rw [jbehind, if_neg c_1, if_pos c_2]) dX0_byteBehindWhole_12
/-- digits before the point, counted: fuel, then how many so far -/
def jwdF (x : Int64) : Nat → Nat → Nat
  | 0, k => k
  | n + 1, k => if k < 11 ∧ gP k ≤ x then jwdF x n (k + 1) else k
def jwd (x : Int64) : Int32 := nI (jwdF x 11 1)
theorem jwdF_range (x : Int64) : ∀ n k, 1 ≤ k → k ≤ 11 → 1 ≤ jwdF x n k ∧ jwdF x n k ≤ 11
  | 0, k, h1, h2 => ⟨h1, h2⟩
  | n + 1, k, h1, h2 => by
    rw [jwdF]
    split
    next h => exact jwdF_range x n (k + 1) (by omega) (by omega)
    next => exact ⟨h1, h2⟩
theorem jwd_at (x : Int64) : ∃ w, 1 ≤ w ∧ w ≤ 11 ∧ jwd x = nI w := ⟨jwdF x 11 1, (jwdF_range x 11 1 (by omega) (by omega)).1, (jwdF_range x 11 1 (by omega) (by omega)).2, rfl⟩
set_option maxHeartbeats 4000000 in
set_option maxRecDepth 100000 in
theorem tX0_wholeDigits (l : Launch) (t : Nat) (x : Int64) : gSi l yX0_wholeDigits cX0_wholeDigits 3 .int { frames := 0, cells := 0, slots := 0, locals := 0 } t [.long x] (fun z9 => z9 = jwd x) := by
  refine g_openi (by decide +kernel) (Nat.le_of_ble_eq_true rfl) ?_
  intro p e s m below meth c ls S hr hlocks hE hl
  obtain ⟨hx, hb, hml, hown, hts⟩ := id S
  have hs : ∀ w ∈ gws, w ∈ Cond.code yX0_wholeDigits cX0_wholeDigits 3 (some .int) :: gws := fun w h => List.mem_cons_of_mem _ h
  have hS : va_S (gN s.heap.size) s.heap s.heap [] := va_S.rf
  have hl : lv_has ls 3 [(0, .long x)] := hl
  refine lv_iconst (v := 1) hx hb dX0_wholeDigits_0 (by decide) ?_
  refine lv_istore_n (lv' := [(2, .int (1 : Int32)), (0, .long x)]) hx hb dX0_wholeDigits_1 rfl hl (by decide) rfl (fun ls hl => ?_)
  have loop : ∀ (n k : Nat) (ls : Array Slot), k ≤ 11 → 12 ≤ k + n → jwdF x n k = jwdF x 11 1 → lv_has ls 3 [(2, .int (nI k)), (0, .long x)] →
      W p l e { frames := 0, cells := 0, slots := 0, locals := 0 } s m [Value.long x].toArray below meth c s.heap [] 0 0 (MQ below (va_Qi (fun r (_ : Unit) => (fun z9 => z9 = jwd x) r) (fun _ t' => t'.heap.size = s.heap.size) (gN s.heap.size)) [Value.long x].toArray s 0 0 (gN s.heap.size)) (F0 m 2 ls []) := by
    intro n
    induction n with
    | zero => intro k ls h1 h2; omega
    | succ n ih =>
      intro k ls hk hn heq hl
      have e11 : (11 : Int32) = nI 11 := by decide
      refine lv_iload_n hx hb dX0_wholeDigits_2 rfl (lv_at hl 0 rfl) ?_
      refine lv_bipush (v := 11) hx hb dX0_wholeDigits_3 (by decide) ?_
      refine lv_icmp_ge (tgt := 24) hx hb dX0_wholeDigits_5 (by decide) (fun c_1 => ?_) (fun c_1 => ?_)
      · rw [e11, nI_leI (by omega) (by omega)] at c_1
        refine lv_iload_n hx hb dX0_wholeDigits_24 rfl (lv_at hl 0 rfl) ?_
        exact g_iret hx hb hr hlocks (show nI k = jwd x from by rw [jwd, ← heq, jwdF, if_neg (fun q => by omega)]) dX0_wholeDigits_25
      · rw [e11, nI_leI (by omega) (by omega)] at c_1
        refine lv_lload_n hx hb dX0_wholeDigits_8 rfl (lv_at hl 1 rfl) ?_
        refine va_gets hx hb hE.2.2.2.2.1 hS hown (hts _ (hs _ fl_X0_36)) (fun _ h => h) dX0_wholeDigits_9 ?_
        refine lv_iload_n hx hb dX0_wholeDigits_12 rfl (lv_at hl 0 rfl) ?_
        refine va_tl hx hb hE.2.2.2.2.2 hS (vp_in_nI (by omega) (by decide)) rfl dX0_wholeDigits_13 ?_
        refine g_lc_lt (tgt := 24) hx hb dX0_wholeDigits_14 dX0_wholeDigits_15 (by decide) (fun c_2 => ?_) (fun c_2 => ?_)
        · rw [nI_clamp (by omega)] at c_2
          refine lv_iload_n hx hb dX0_wholeDigits_24 rfl (lv_at hl 0 rfl) ?_
          exact g_iret hx hb hr hlocks (show nI k = jwd x from by rw [jwd, ← heq, jwdF, if_neg (fun q => Int64.not_lt.mpr q.2 c_2)]) dX0_wholeDigits_25
        · rw [nI_clamp (by omega)] at c_2
          refine lv_iinc (lv' := [(2, .int (nI k + 1)), (0, .long x)]) hx hb dX0_wholeDigits_18 hl (k := 0) rfl rfl (by decide) rfl (fun ls hl => ?_)
          refine lv_goto (tgt := 2) hx hb dX0_wholeDigits_21 (by decide) ?_
          exact ih (k + 1) ls (by omega) (by omega) (by rw [← heq, jwdF, if_pos ⟨by omega, Int64.not_lt.mp c_2⟩]) (by rw [← nI_1]; exact hl)
  exact loop 11 1 ls (by omega) (by omega) rfl hl
theorem g_ixB {i : Int32} {w : Nat} (h1 : 1 ≤ w) (h2 : w ≤ 11) (h0 : ¬ i < 0) (h : ¬ nI w ≤ i) : vp_in (nI w - (1 : Int32) - i) 14 := by
  obtain ⟨j, hj, rfl⟩ := nI_of h0
  rw [nI_leI (by omega) (by omega)] at h
  have e : nI w - (1 : Int32) - nI j = nI (w - 1 - j) := by
    rw [show (1 : Int32) = nI 1 from by decide, pk_sub (by omega), pk_sub (by omega)]
  rw [e]
  exact vp_in_nI (by omega) (by decide)
theorem g_ixC {i : Int32} {w : Nat} (h2 : w ≤ 11) (h0 : ¬ i < 0) (h : nI w ≤ i) : ¬ i - nI w < 0 := by
  obtain ⟨j, hj, rfl⟩ := nI_of h0
  rw [nI_leI (by omega) (by omega)] at h
  rw [pk_sub h]
  exact nI_pos (by omega)
theorem g_ixB' {i : Int32} (x : Int64) (h0 : ¬ i < 0) (h : ¬ jwd x ≤ i) : vp_in (jwd x - (1 : Int32) - i) 14 := by
  obtain ⟨w, h1, h2, e⟩ := jwd_at x
  rw [e] at h ⊢
  exact g_ixB h1 h2 h0 h
theorem g_ixC' {i : Int32} (x : Int64) (h0 : ¬ i < 0) (h : jwd x ≤ i) : ¬ i - jwd x < 0 := by
  obtain ⟨w, h1, h2, e⟩ := jwd_at x
  rw [e] at h ⊢
  exact g_ixC h2 h0 h
def jbyte (n : Int64) (i : Int32) : Int32 :=
  if (jwd (n / (10000 : Int64))) ≤ i then
    jbehind (n - n / (10000 : Int64) * (10000 : Int64)) (i - (jwd (n / (10000 : Int64))))
  else jdigit (n / (10000 : Int64)) (((jwd (n / (10000 : Int64))) - (1 : Int32)) - i)
set_option maxHeartbeats 4000000 in
set_option maxRecDepth 100000 in
theorem tX0_printedByte (l : Launch) (t : Nat) (n : Int64) (i : Int32) (hi : ¬ i < 0) : gSi l yX0_printedByte cX0_printedByte 6 .int { frames := 2, cells := 0, slots := 0, locals := 60 } t [.long n, .int i] (fun z9 => z9 = jbyte n i) := by
  refine g_openi (by decide +kernel) (Nat.le_of_ble_eq_true rfl) ?_
  intro p e s m below meth c ls S hr hlocks hE hl
  obtain ⟨hx, hb, hml, hown, hts⟩ := id S
  have hs : ∀ w ∈ gws, w ∈ Cond.code yX0_printedByte cX0_printedByte 6 (some .int) :: gws := fun w h => List.mem_cons_of_mem _ h
  have hA : ∀ q, s.heap.size ≤ q → gN s.heap.size q := fun _ h => h
  have hS : va_S (gN s.heap.size) s.heap s.heap [] := va_S.rf
  have hl : lv_has ls 6 [(0, .long n), (2, .int i)] := hl
  refine lv_lload_n hx hb dX0_printedByte_0 rfl (lv_at hl 0 rfl) ?_
  refine lv_ldc2 hx hb hown (hts _ (hs _ kl_X0_60)) dX0_printedByte_1 ?_
  refine lv_ldiv hx hb dX0_printedByte_4 (by decide) ?_
  refine lv_lstore_n (lv' := [(3, .long (n / (10000 : Int64))), (0, .long n), (2, .int i)]) hx hb dX0_printedByte_5 rfl hl (by decide) rfl (fun ls hl => ?_)
  refine lv_lload_n hx hb dX0_printedByte_6 rfl (lv_at hl 0 rfl) ?_
  refine g_callSi S hs (tX0_wholeDigits l t (n / (10000 : Int64))) ml_X0_78 st_yX0_wholeDigits in_X0 cd_yX0_wholeDigits hd_yX0_wholeDigits ⟨by decide, by decide⟩ hE hS hA hl.1 rfl (Nat.le_of_ble_eq_true rfl) ⟨by decide, by decide⟩ dX0_printedByte_7 (fun r_1 hr_1 => ?_)
  subst hr_1
  refine lv_istore (lv' := [(5, .int (jwd (n / (10000 : Int64)))), (3, .long (n / (10000 : Int64))), (0, .long n), (2, .int i)]) hx hb dX0_printedByte_10 hl (by decide) rfl (fun ls hl => ?_)
  refine lv_iload_n hx hb dX0_printedByte_12 rfl (lv_at hl 3 rfl) ?_
  refine lv_iload hx hb dX0_printedByte_13 (lv_at hl 0 rfl) ?_
  refine lv_icmp_ge (tgt := 29) hx hb dX0_printedByte_15 (by decide) (fun c_2 => ?_) (fun c_2 => ?_)
  · refine lv_lload_n hx hb dX0_printedByte_29 rfl (lv_at hl 2 rfl) ?_
    refine lv_ldc2 hx hb hown (hts _ (hs _ kl_X0_60)) dX0_printedByte_30 ?_
    refine lv_lrem hx hb dX0_printedByte_33 (by decide) ?_
    refine lv_iload_n hx hb dX0_printedByte_34 rfl (lv_at hl 3 rfl) ?_
    refine lv_iload hx hb dX0_printedByte_35 (lv_at hl 0 rfl) ?_
    refine lv_isub hx hb dX0_printedByte_37 ?_
    refine g_callSi S hs (tX0_byteBehindWhole l t (n - n / (10000 : Int64) * (10000 : Int64)) (i - (jwd (n / (10000 : Int64)))) (g_ixC' _ hi c_2)) ml_X0_85 st_yX0_byteBehindWhole in_X0 cd_yX0_byteBehindWhole hd_yX0_byteBehindWhole ⟨by decide, by decide⟩ hE hS hA hl.1 rfl (Nat.le_of_ble_eq_true rfl) ⟨by decide, by decide⟩ dX0_printedByte_38 (fun r_3 hr_3 => ?_)
    subst hr_3
    exact g_iret hx hb hr hlocks (by rw [jbyte, if_pos c_2]) dX0_printedByte_41
  · refine lv_lload_n hx hb dX0_printedByte_18 rfl (lv_at hl 1 rfl) ?_
    refine lv_iload hx hb dX0_printedByte_19 (lv_at hl 0 rfl) ?_
    refine lv_iconst (v := 1) hx hb dX0_printedByte_21 (by decide) ?_
    refine lv_isub hx hb dX0_printedByte_22 ?_
    refine lv_iload_n hx hb dX0_printedByte_23 rfl (lv_at hl 3 rfl) ?_
    refine lv_isub hx hb dX0_printedByte_24 ?_
    refine g_callSi S hs (tX0_digit l t (n / (10000 : Int64)) (((jwd (n / (10000 : Int64))) - (1 : Int32)) - i) (g_ixB' _ hi c_2)) ml_X0_82 st_yX0_digit in_X0 cd_yX0_digit hd_yX0_digit ⟨by decide, by decide⟩ hE hS hA hl.1 rfl (Nat.le_of_ble_eq_true rfl) ⟨by decide, by decide⟩ dX0_printedByte_25 (fun r_4 hr_4 => ?_)
    subst hr_4
    exact g_iret hx hb hr hlocks (by rw [jbyte, if_neg c_2]) dX0_printedByte_28
end
section
/-! ===== the class's object: its cells, its contract ===== -/
/-- a desk: the object and its eight registers -/
abbrev wX (h0 h1 : Nat) (cJ : ClassId) (f : Nat → Int64) : va_W := [(h0, .inr (0, [.ref h1])), (h1, .inl (cJ, 8, .inr (.inl f)))]
abbrev gXPre (t : Nat) (D : va_G) (h0 h1 : Nat) (cJ : ClassId) (f : Nat → Int64) (sz : Nat) (As : List Value) : Array Value → State → Prop :=
  va_Pc (.ref h0 :: As) (fun U => U.heap.size = sz ∧ gE t (va_A (wX h0 h1 cJ f) sz) U U.heap ∧ va_P D vwCl (wX h0 h1 cJ f) U.heap ∧ va_K D vwCl [(cJ, .long)] U ∧ va_D (fun _ => True) (wX h0 h1 cJ f))
theorem gXPre_blind (t : Nat) (D : va_G) (h0 h1 : Nat) (cJ : ClassId) (f : Nat → Int64) (sz : Nat) (As : List Value) : FrameBlind (gXPre t D h0 h1 cJ f sz As) := fun a U g mk q =>
  ⟨q.1, q.2.1, (show gE t (va_A (wX h0 h1 cJ f) sz) _ U.heap from gE.same (u := U) rfl q.2.2.1), q.2.2.2.1, va_K.moved (u := U) (U := U.calling g mk a) (Vm.Alike.refl U.vm) q.2.2.2.2.1, q.2.2.2.2.2⟩
/-- the world behind: registers f' -/
abbrev gXB (D : va_G) (h0 h1 : Nat) (cJ : ClassId) (f : Nat → Int64) (sz : Nat) : (Nat → Int64) → State → Prop := fun f' t' => va_P D vwCl (wX h0 h1 cJ f') t'.heap ∧ va_K D vwCl [(cJ, .long)] t' ∧ va_D (va_A (wX h0 h1 cJ f) sz) (wX h0 h1 cJ f')
def gXl (l : Launch) (y : MethodName) (b : ByteArray) (n : Nat) (rm : Room) (t : Nat) (D : va_G) (h0 h1 : Nat) (cJ : ClassId) (f : Nat → Int64) (As : List Value) (post : Int64 → (Nat → Int64) → Prop) (xp : String → Prop) : Prop :=
  ∀ sz, vx_Met l y (Cond.code y b n (some .long) :: gws) rm (gXPre t D h0 h1 cJ f sz As) (va_Ql post (gXB D h0 h1 cJ f sz) (va_A (wX h0 h1 cJ f) sz)) (gXC xp sz) rm.cells rm.slots (va_A (wX h0 h1 cJ f) sz)
def gXi (l : Launch) (y : MethodName) (b : ByteArray) (n : Nat) (rm : Room) (t : Nat) (D : va_G) (h0 h1 : Nat) (cJ : ClassId) (f : Nat → Int64) (As : List Value) (post : Int32 → (Nat → Int64) → Prop) (xp : String → Prop) : Prop :=
  ∀ sz, vx_Met l y (Cond.code y b n (some .int) :: gws) rm (gXPre t D h0 h1 cJ f sz As) (va_Qi post (gXB D h0 h1 cJ f sz) (va_A (wX h0 h1 cJ f) sz)) (gXC xp sz) rm.cells rm.slots (va_A (wX h0 h1 cJ f) sz)
theorem g_openXl {l : Launch} {y : MethodName} {b : ByteArray} {n : Nat} {rm : Room} {t : Nat} {D : va_G} {h0 h1 : Nat} {cJ : ClassId} {f : Nat → Int64} {As : List Value} {post : Int64 → (Nat → Int64) → Prop} {xp : String → Prop} (hy : plainName y.cls = true) (hn : (lg_sl (.ref h0 :: As)).length ≤ n)
    (body : ∀ (p : Program) (e : Env) (s : State) (m : MethodId) (below : List Frame) (meth : Method) (c : Code) (ls : Array Slot) (A : Nat → Prop), A = va_A (wX h0 h1 cJ f) s.heap.size → (∀ q, s.heap.size ≤ q → A q) → CallFix p m c b n s (Value.ref h0 :: As).toArray (Cond.code y b n (some .long) :: gws) y.cls → meth.sig.returnType = some .long → meth.locks = false → (∀ x ∈ c.exceptionTable.toList, False) → gE t (gN s.heap.size) s s.heap → va_P D vwCl (wX h0 h1 cJ f) s.heap → va_K D vwCl [(cJ, .long)] s → va_D A (wX h0 h1 cJ f) → lv_has ls n (lv_args 0 (.ref h0 :: As)) →
      W p l e rm s m (Value.ref h0 :: As).toArray below meth c s.heap [] 0 0 (vx_MQ below (va_Ql post (fun f' t' => va_P D vwCl (wX h0 h1 cJ f') t'.heap ∧ va_K D vwCl [(cJ, .long)] t' ∧ va_D A (wX h0 h1 cJ f')) A) (gXC xp s.heap.size) (Value.ref h0 :: As).toArray s rm.cells rm.slots A) (F0 m 0 ls [])) : gXl l y b n rm t D h0 h1 cJ f As post xp := by
  intro sz
  refine vx_ofW (cc := b) (maxL := n) (ret := some .long) hy rfl ?_
  intro p e s m args below meth c s₁ B hml hout hv
  obtain ⟨rfl, hsz, hE, hP, hK, hD⟩ := hv
  subst hsz
  rw [lg_entry_eq]
  exact body p e s m below meth c _ _ rfl (fun q h => Or.inr h) ⟨B.exec, B.bytes, hml, findClass_of_methodNamed B.named, atoms_spec (ws := Cond.code y b n (some .long) :: gws) B.pre⟩ B.returns B.notSynchronized hout (hE.narrow (fun q h => Or.inr h)) hP hK hD.self (lv_entry (.ref h0 :: As) hn)
theorem g_openXi {l : Launch} {y : MethodName} {b : ByteArray} {n : Nat} {rm : Room} {t : Nat} {D : va_G} {h0 h1 : Nat} {cJ : ClassId} {f : Nat → Int64} {As : List Value} {post : Int32 → (Nat → Int64) → Prop} {xp : String → Prop} (hy : plainName y.cls = true) (hn : (lg_sl (.ref h0 :: As)).length ≤ n)
    (body : ∀ (p : Program) (e : Env) (s : State) (m : MethodId) (below : List Frame) (meth : Method) (c : Code) (ls : Array Slot) (A : Nat → Prop), A = va_A (wX h0 h1 cJ f) s.heap.size → (∀ q, s.heap.size ≤ q → A q) → CallFix p m c b n s (Value.ref h0 :: As).toArray (Cond.code y b n (some .int) :: gws) y.cls → meth.sig.returnType = some .int → meth.locks = false → (∀ x ∈ c.exceptionTable.toList, False) → gE t (gN s.heap.size) s s.heap → va_P D vwCl (wX h0 h1 cJ f) s.heap → va_K D vwCl [(cJ, .long)] s → va_D A (wX h0 h1 cJ f) → lv_has ls n (lv_args 0 (.ref h0 :: As)) →
      W p l e rm s m (Value.ref h0 :: As).toArray below meth c s.heap [] 0 0 (vx_MQ below (va_Qi post (fun f' t' => va_P D vwCl (wX h0 h1 cJ f') t'.heap ∧ va_K D vwCl [(cJ, .long)] t' ∧ va_D A (wX h0 h1 cJ f')) A) (gXC xp s.heap.size) (Value.ref h0 :: As).toArray s rm.cells rm.slots A) (F0 m 0 ls [])) : gXi l y b n rm t D h0 h1 cJ f As post xp := by
  intro sz
  refine vx_ofW (cc := b) (maxL := n) (ret := some .int) hy rfl ?_
  intro p e s m args below meth c s₁ B hml hout hv
  obtain ⟨rfl, hsz, hE, hP, hK, hD⟩ := hv
  subst hsz
  rw [lg_entry_eq]
  exact body p e s m below meth c _ _ rfl (fun q h => Or.inr h) ⟨B.exec, B.bytes, hml, findClass_of_methodNamed B.named, atoms_spec (ws := Cond.code y b n (some .int) :: gws) B.pre⟩ B.returns B.notSynchronized hout (hE.narrow (fun q h => Or.inr h)) hP hK hD.self (lv_entry (.ref h0 :: As) hn)
theorem isReg_in {r : Int32} (h : ¬ jX0_isRegister r = 0) : vp_in r 8 := by
  unfold jX0_isRegister at h
  split at h
  · exact absurd rfl h
  · split at h
    · exact absurd rfl h
    next h1 h2 =>
      rcases pk_ix r (n := 8) (by decide) with q | q | ⟨j, hj, rfl⟩
      · exact absurd q h1
      · exact absurd q h2
      · exact vp_in_nI hj (by decide)
theorem g_ixD {d : Int32} (h1 : ¬ d < (-9 : Int32)) (h2 : d ≤ (4 : Int32)) : vp_in ((4 : Int32) - d) 14 := by
  rw [vp_in_iff]
  have a1 := Int32.not_lt.mp h1
  rw [Int32.le_iff_toInt_le] at a1 h2
  have e1 : (-9 : Int32).toInt = -9 := by decide
  have e2 : (4 : Int32).toInt = 4 := by decide
  rw [e1] at a1
  rw [e2] at h2
  have e3 : ((4 : Int32) - d).toInt = 4 - d.toInt := by
    rw [Int32.toInt_sub, e2]
    exact Int.bmod_eq_of_le (by omega) (by omega)
  rw [e3]
  omega
theorem g_ixE {i : Int32} (h1 : (0 : Int32) ≤ i) (h2 : ¬ i = (0 : Int32)) : ¬ i - (1 : Int32) < 0 := by
  obtain ⟨j, hj, rfl⟩ := nI_of (Int32.not_lt.mpr h1)
  have hj0 : j ≠ 0 := fun e => h2 (by rw [e]; rfl)
  rw [show (1 : Int32) = nI 1 from by decide, pk_sub (by omega)]
  exact nI_pos (by omega)
end
section
def jset (f : Nat → Int64) (r : Int32) (n : Int64) : String ⊕ (Int64 × (Nat → Int64)) :=
  if (jX0_isRegister r) = (0 : Int32) then
    .inl gIAE
  else if (jX0_isNumber n) = (0 : Int32) then
    .inl gIAE
  else .inr (f r.toNatClampNeg, vp_updL f r.toNatClampNeg n)
set_option maxHeartbeats 4000000 in
set_option maxRecDepth 100000 in
theorem tX0_set (l : Launch) (hnt : l.stackTraces = false) (t : Nat) (D : va_G) (h0 h1 : Nat) (cJ : ClassId) (f : Nat → Int64) (r : Int32) (n : Int64) : gXl l yX0_set cX0_set 6 { frames := 6, cells := 1, slots := 6, locals := 90 } t D h0 h1 cJ f [.int r, .long n] (fun z9 f9 => jset f r n = .inr (z9, f9)) (fun E9 => jset f r n = .inl E9) := by
  refine g_openXl (by decide +kernel) (Nat.le_of_ble_eq_true rfl) ?_
  intro p e s m below meth c ls A _ hAA S hr hlocks hout hE hP hK hD hl
  obtain ⟨hx, hb, hml, hown, hts⟩ := id S
  have hs : ∀ w ∈ gws, w ∈ Cond.code yX0_set cX0_set 6 (some .long) :: gws := fun w h => List.mem_cons_of_mem _ h
  have hA : ∀ q, s.heap.size ≤ q → gN s.heap.size q := fun _ h => h
  have hS : va_S (gN s.heap.size) s.heap s.heap [] := va_S.rf
  have hSw : va_S A s.heap s.heap [] := va_S.rf
  have hl : lv_has ls 6 [(0, .ref h0), (1, .int r), (2, .long n)] := hl
  refine lv_iload_n hx hb dX0_set_0 rfl (lv_at hl 1 rfl) ?_
  refine g_callSi S hs (tX0_isRegister l t r) ml_X0_13 st_yX0_isRegister in_X0 cd_yX0_isRegister hd_yX0_isRegister ⟨by decide, by decide⟩ hE hS hA hl.1 rfl (Nat.le_of_ble_eq_true rfl) ⟨by decide, by decide⟩ dX0_set_1 (fun r_1 hr_1 => ?_)
  subst hr_1
  refine lv_if_eq (tgt := 14) hx hb dX0_set_4 (by decide) (fun c_2 => ?_) (fun c_2 => ?_)
  · exact g_throw S hs hnt (by decide +kernel) cl_X0_21 in_IllegalArgumentException gt_IAE1 gt_IAE2 gt_IAE3 hE hS hl.1 dX0_set_14 dX0_set_17 dX0_set_18 dX0_set_21 hout hlocks (by decide) (Nat.le_of_ble_eq_true rfl) (by decide) (by decide) (fun q h => hAA q h) (by decide) (by decide) (fun t9 hF9 _ _ => ⟨(), trivial, (show jset f r n = .inl gIAE from by rw [jset, if_pos c_2]), hF9⟩)
  · refine lv_lload_n hx hb dX0_set_7 rfl (lv_at hl 2 rfl) ?_
    refine g_callSi S hs (tX0_isNumber l t n) ml_X0_17 st_yX0_isNumber in_X0 cd_yX0_isNumber hd_yX0_isNumber ⟨by decide, by decide⟩ hE hS hA hl.1 rfl (Nat.le_of_ble_eq_true rfl) ⟨by decide, by decide⟩ dX0_set_8 (fun r_3 hr_3 => ?_)
    subst hr_3
    refine lv_if_ne (tgt := 22) hx hb dX0_set_11 (by decide) (fun c_4 => ?_) (fun c_4 => ?_)
    · refine lv_aload_n hx hb dX0_set_22 rfl (lv_at hl 0 rfl) ?_
      refine va_get (ci := 0) (v := .ref h1) (C := RX0) (T := TX0) (N := 1) hx hb hts (fun w h => hs _ (inX0g w h)) hown hK hP 0 rfl rfl 0 (by decide) (hts _ (hs _ fl_X0_9)) (fun _ h9 => h9) rfl dX0_set_23 ?_
      refine lv_iload_n hx hb dX0_set_26 rfl (lv_at hl 1 rfl) ?_
      refine va_lald hx hb hK hP 1 0 rfl rfl (isReg_in c_2) dX0_set_27 ?_
      refine lv_lstore (lv' := [(4, .long (f r.toNatClampNeg)), (0, .ref h0), (1, .int r), (2, .long n)]) hx hb dX0_set_28 hl (by decide) rfl (fun ls hl => ?_)
      refine lv_aload_n hx hb dX0_set_30 rfl (lv_at hl 1 rfl) ?_
      refine va_get (ci := 0) (v := .ref h1) (C := RX0) (T := TX0) (N := 1) hx hb hts (fun w h => hs _ (inX0g w h)) hown hK hP 0 rfl rfl 0 (by decide) (hts _ (hs _ fl_X0_9)) (fun _ h9 => h9) rfl dX0_set_31 ?_
      refine lv_iload_n hx hb dX0_set_34 rfl (lv_at hl 2 rfl) ?_
      refine lv_lload_n hx hb dX0_set_35 rfl (lv_at hl 3 rfl) ?_
      refine va_last hx hb hK hP hD hSw 1 0 rfl rfl (isReg_in c_2) dX0_set_36 (fun H locs hP hD hSw => ?_)
      have hP : va_P D vwCl (wX h0 h1 cJ (vp_updL f r.toNatClampNeg n)) H := hP
      have hD : va_D A (wX h0 h1 cJ (vp_updL f r.toNatClampNeg n)) := hD
      refine lv_lload hx hb dX0_set_37 (lv_at hl 0 rfl) ?_
      exact vx_ret (W.widen (by decide) (by decide) (W.lret (v := f r.toNatClampNeg) hx hb hr (fun t9 ht9 hW9 => ⟨⟨f r.toNatClampNeg, vp_updL f r.toNatClampNeg n, rfl, (by rw [jset, if_neg c_2, if_neg c_4]), by rw [ht9]; exact hP, va_K.moved hW9.alike hK, hD⟩, hSw.F ht9⟩) hSw.2.2 dX0_set_39 hlocks))
    · exact g_throw S hs hnt (by decide +kernel) cl_X0_21 in_IllegalArgumentException gt_IAE1 gt_IAE2 gt_IAE3 hE hS hl.1 dX0_set_14 dX0_set_17 dX0_set_18 dX0_set_21 hout hlocks (by decide) (Nat.le_of_ble_eq_true rfl) (by decide) (by decide) (fun q h => hAA q h) (by decide) (by decide) (fun t9 hF9 _ _ => ⟨(), trivial, (show jset f r n = .inl gIAE from by rw [jset, if_neg c_2, if_pos c_4]), hF9⟩)
def jget (f : Nat → Int64) (r : Int32) : String ⊕ (Int64 × (Nat → Int64)) :=
  if (jX0_isRegister r) = (0 : Int32) then
    .inl gIAE
  else .inr (f r.toNatClampNeg, f)
set_option maxHeartbeats 4000000 in
set_option maxRecDepth 100000 in
theorem tX0_get (l : Launch) (hnt : l.stackTraces = false) (t : Nat) (D : va_G) (h0 h1 : Nat) (cJ : ClassId) (f : Nat → Int64) (r : Int32) : gXl l yX0_get cX0_get 2 { frames := 6, cells := 1, slots := 6, locals := 90 } t D h0 h1 cJ f [.int r] (fun z9 f9 => jget f r = .inr (z9, f9)) (fun E9 => jget f r = .inl E9) := by
  refine g_openXl (by decide +kernel) (Nat.le_of_ble_eq_true rfl) ?_
  intro p e s m below meth c ls A _ hAA S hr hlocks hout hE hP hK hD hl
  obtain ⟨hx, hb, hml, hown, hts⟩ := id S
  have hs : ∀ w ∈ gws, w ∈ Cond.code yX0_get cX0_get 2 (some .long) :: gws := fun w h => List.mem_cons_of_mem _ h
  have hA : ∀ q, s.heap.size ≤ q → gN s.heap.size q := fun _ h => h
  have hS : va_S (gN s.heap.size) s.heap s.heap [] := va_S.rf
  have hSw : va_S A s.heap s.heap [] := va_S.rf
  have hl : lv_has ls 2 [(0, .ref h0), (1, .int r)] := hl
  refine lv_iload_n hx hb dX0_get_0 rfl (lv_at hl 1 rfl) ?_
  refine g_callSi S hs (tX0_isRegister l t r) ml_X0_13 st_yX0_isRegister in_X0 cd_yX0_isRegister hd_yX0_isRegister ⟨by decide, by decide⟩ hE hS hA hl.1 rfl (Nat.le_of_ble_eq_true rfl) ⟨by decide, by decide⟩ dX0_get_1 (fun r_1 hr_1 => ?_)
  subst hr_1
  refine lv_if_ne (tgt := 15) hx hb dX0_get_4 (by decide) (fun c_2 => ?_) (fun c_2 => ?_)
  · refine lv_aload_n hx hb dX0_get_15 rfl (lv_at hl 0 rfl) ?_
    refine va_get (ci := 0) (v := .ref h1) (C := RX0) (T := TX0) (N := 1) hx hb hts (fun w h => hs _ (inX0g w h)) hown hK hP 0 rfl rfl 0 (by decide) (hts _ (hs _ fl_X0_9)) (fun _ h9 => h9) rfl dX0_get_16 ?_
    refine lv_iload_n hx hb dX0_get_19 rfl (lv_at hl 1 rfl) ?_
    refine va_lald hx hb hK hP 1 0 rfl rfl (isReg_in c_2) dX0_get_20 ?_
    exact vx_ret (W.widen (by decide) (by decide) (W.lret (v := f r.toNatClampNeg) hx hb hr (fun t9 ht9 hW9 => ⟨⟨f r.toNatClampNeg, f, rfl, (by rw [jget, if_neg c_2]), by rw [ht9]; exact hP, va_K.moved hW9.alike hK, hD⟩, hSw.F ht9⟩) hSw.2.2 dX0_get_21 hlocks))
  · exact g_throw S hs hnt (by decide +kernel) cl_X0_21 in_IllegalArgumentException gt_IAE1 gt_IAE2 gt_IAE3 hE hS hl.1 dX0_get_7 dX0_get_10 dX0_get_11 dX0_get_14 hout hlocks (by decide) (Nat.le_of_ble_eq_true rfl) (by decide) (by decide) (fun q h => hAA q h) (by decide) (by decide) (fun t9 hF9 _ _ => ⟨(), trivial, (show jget f r = .inl gIAE from by rw [jget, if_pos c_2]), hF9⟩)
theorem g_op5 {op : Int32} (h1 : ¬ op < 0) (h2 : op ≤ (4 : Int32)) : op = 0 ∨ op = 1 ∨ op = 2 ∨ op = 3 ∨ op = 4 := by
  obtain ⟨j, hj, rfl⟩ := nI_of2 (M := 4) (n := 4) rfl h1 h2
  have key : ∀ j, j < 5 → nI j = 0 ∨ nI j = 1 ∨ nI j = 2 ∨ nI j = 3 ∨ nI j = 4 := by decide
  exact key j (by omega)
def jreckon (f : Nat → Int64) (r : Int32) (op : Int32) (a : Int32) (b : Int32) : String ⊕ (Int64 × (Nat → Int64)) :=
  if (jX0_isRegister r) = (0 : Int32) then
    .inl gIAE
  else if (jX0_isRegister a) = (0 : Int32) then
    .inl gIAE
  else if (jX0_isRegister b) = (0 : Int32) then
    .inl gIAE
  else if op < (0 : Int32) then
    .inl gIAE
  else if op ≤ (4 : Int32) then
    jbind (jreckoned op (f a.toNatClampNeg) (f b.toNatClampNeg)) fun r_9 =>
      jbind (jlimited r_9) fun r_10 =>
        .inr (r_10, vp_updL f r.toNatClampNeg r_10)
  else .inl gIAE
set_option maxHeartbeats 4000000 in
set_option maxRecDepth 100000 in
theorem tX0_reckon (l : Launch) (hnt : l.stackTraces = false) (t : Nat) (D : va_G) (h0 h1 : Nat) (cJ : ClassId) (f : Nat → Int64) (r : Int32) (op : Int32) (a : Int32) (b : Int32) : gXl l yX0_reckon cX0_reckon 7 { frames := 9, cells := 1, slots := 6, locals := 180 } t D h0 h1 cJ f [.int r, .int op, .int a, .int b] (fun z9 f9 => jreckon f r op a b = .inr (z9, f9)) (fun E9 => jreckon f r op a b = .inl E9) := by
  refine g_openXl (by decide +kernel) (Nat.le_of_ble_eq_true rfl) ?_
  intro p e s m below meth c ls A _ hAA S hr hlocks hout hE hP hK hD hl
  obtain ⟨hx, hb, hml, hown, hts⟩ := id S
  have hs : ∀ w ∈ gws, w ∈ Cond.code yX0_reckon cX0_reckon 7 (some .long) :: gws := fun w h => List.mem_cons_of_mem _ h
  have hA : ∀ q, s.heap.size ≤ q → gN s.heap.size q := fun _ h => h
  have hS : va_S (gN s.heap.size) s.heap s.heap [] := va_S.rf
  have hSw : va_S A s.heap s.heap [] := va_S.rf
  have hl : lv_has ls 7 [(0, .ref h0), (1, .int r), (2, .int op), (3, .int a), (4, .int b)] := hl
  refine lv_iload_n hx hb dX0_reckon_0 rfl (lv_at hl 1 rfl) ?_
  refine g_callSi S hs (tX0_isRegister l t r) ml_X0_13 st_yX0_isRegister in_X0 cd_yX0_isRegister hd_yX0_isRegister ⟨by decide, by decide⟩ hE hS hA hl.1 rfl (Nat.le_of_ble_eq_true rfl) ⟨by decide, by decide⟩ dX0_reckon_1 (fun r_1 hr_1 => ?_)
  subst hr_1
  refine lv_if_eq (tgt := 31) hx hb dX0_reckon_4 (by decide) (fun c_2 => ?_) (fun c_2 => ?_)
  · exact g_throw S hs hnt (by decide +kernel) cl_X0_21 in_IllegalArgumentException gt_IAE1 gt_IAE2 gt_IAE3 hE hS hl.1 dX0_reckon_31 dX0_reckon_34 dX0_reckon_35 dX0_reckon_38 hout hlocks (by decide) (Nat.le_of_ble_eq_true rfl) (by decide) (by decide) (fun q h => hAA q h) (by decide) (by decide) (fun t9 hF9 _ _ => ⟨(), trivial, (show jreckon f r op a b = .inl gIAE from by rw [jreckon, if_pos c_2]), hF9⟩)
  · refine lv_iload_n hx hb dX0_reckon_7 rfl (lv_at hl 3 rfl) ?_
    refine g_callSi S hs (tX0_isRegister l t a) ml_X0_13 st_yX0_isRegister in_X0 cd_yX0_isRegister hd_yX0_isRegister ⟨by decide, by decide⟩ hE hS hA hl.1 rfl (Nat.le_of_ble_eq_true rfl) ⟨by decide, by decide⟩ dX0_reckon_8 (fun r_3 hr_3 => ?_)
    subst hr_3
    refine lv_if_eq (tgt := 31) hx hb dX0_reckon_11 (by decide) (fun c_4 => ?_) (fun c_4 => ?_)
    · exact g_throw S hs hnt (by decide +kernel) cl_X0_21 in_IllegalArgumentException gt_IAE1 gt_IAE2 gt_IAE3 hE hS hl.1 dX0_reckon_31 dX0_reckon_34 dX0_reckon_35 dX0_reckon_38 hout hlocks (by decide) (Nat.le_of_ble_eq_true rfl) (by decide) (by decide) (fun q h => hAA q h) (by decide) (by decide) (fun t9 hF9 _ _ => ⟨(), trivial, (show jreckon f r op a b = .inl gIAE from by rw [jreckon, if_neg c_2, if_pos c_4]), hF9⟩)
    · refine lv_iload hx hb dX0_reckon_14 (lv_at hl 4 rfl) ?_
      refine g_callSi S hs (tX0_isRegister l t b) ml_X0_13 st_yX0_isRegister in_X0 cd_yX0_isRegister hd_yX0_isRegister ⟨by decide, by decide⟩ hE hS hA hl.1 rfl (Nat.le_of_ble_eq_true rfl) ⟨by decide, by decide⟩ dX0_reckon_16 (fun r_5 hr_5 => ?_)
      subst hr_5
      refine lv_if_eq (tgt := 31) hx hb dX0_reckon_19 (by decide) (fun c_6 => ?_) (fun c_6 => ?_)
      · exact g_throw S hs hnt (by decide +kernel) cl_X0_21 in_IllegalArgumentException gt_IAE1 gt_IAE2 gt_IAE3 hE hS hl.1 dX0_reckon_31 dX0_reckon_34 dX0_reckon_35 dX0_reckon_38 hout hlocks (by decide) (Nat.le_of_ble_eq_true rfl) (by decide) (by decide) (fun q h => hAA q h) (by decide) (by decide) (fun t9 hF9 _ _ => ⟨(), trivial, (show jreckon f r op a b = .inl gIAE from by rw [jreckon, if_neg c_2, if_neg c_4, if_pos c_6]), hF9⟩)
      · refine lv_iload_n hx hb dX0_reckon_22 rfl (lv_at hl 2 rfl) ?_
        refine lv_if_lt (tgt := 31) hx hb dX0_reckon_23 (by decide) (fun c_7 => ?_) (fun c_7 => ?_)
        · exact g_throw S hs hnt (by decide +kernel) cl_X0_21 in_IllegalArgumentException gt_IAE1 gt_IAE2 gt_IAE3 hE hS hl.1 dX0_reckon_31 dX0_reckon_34 dX0_reckon_35 dX0_reckon_38 hout hlocks (by decide) (Nat.le_of_ble_eq_true rfl) (by decide) (by decide) (fun q h => hAA q h) (by decide) (by decide) (fun t9 hF9 _ _ => ⟨(), trivial, (show jreckon f r op a b = .inl gIAE from by rw [jreckon, if_neg c_2, if_neg c_4, if_neg c_6, if_pos c_7]), hF9⟩)
        · refine lv_iload_n hx hb dX0_reckon_26 rfl (lv_at hl 2 rfl) ?_
          refine lv_iconst (v := 4) hx hb dX0_reckon_27 (by decide) ?_
          refine lv_icmp_le (tgt := 39) hx hb dX0_reckon_28 (by decide) (fun c_8 => ?_) (fun c_8 => ?_)
          · refine lv_iload_n hx hb dX0_reckon_39 rfl (lv_at hl 2 rfl) ?_
            refine lv_aload_n hx hb dX0_reckon_40 rfl (lv_at hl 0 rfl) ?_
            refine va_get (ci := 0) (v := .ref h1) (C := RX0) (T := TX0) (N := 1) hx hb hts (fun w h => hs _ (inX0g w h)) hown hK hP 0 rfl rfl 0 (by decide) (hts _ (hs _ fl_X0_9)) (fun _ h9 => h9) rfl dX0_reckon_41 ?_
            refine lv_iload_n hx hb dX0_reckon_44 rfl (lv_at hl 3 rfl) ?_
            refine va_lald hx hb hK hP 1 0 rfl rfl (isReg_in c_4) dX0_reckon_45 ?_
            refine lv_aload_n hx hb dX0_reckon_46 rfl (lv_at hl 0 rfl) ?_
            refine va_get (ci := 0) (v := .ref h1) (C := RX0) (T := TX0) (N := 1) hx hb hts (fun w h => hs _ (inX0g w h)) hown hK hP 0 rfl rfl 0 (by decide) (hts _ (hs _ fl_X0_9)) (fun _ h9 => h9) rfl dX0_reckon_47 ?_
            refine lv_iload hx hb dX0_reckon_50 (lv_at hl 4 rfl) ?_
            refine va_lald hx hb hK hP 1 0 rfl rfl (isReg_in c_6) dX0_reckon_52 ?_
            refine g_callSlX S hs (tX0_reckoned l hnt t op (f a.toNatClampNeg) (f b.toNatClampNeg) (by first | exact g_op5 c_7 c_8 | exact g_op5 (by assumption) (by assumption))) ml_X0_24 st_yX0_reckoned in_X0 cd_yX0_reckoned hd_yX0_reckoned ⟨by decide, by decide⟩ hE hS hA hl.1 rfl (Nat.le_of_ble_eq_true rfl) ⟨by decide, by decide⟩ dX0_reckon_53 hout hlocks (fun q h => hAA q h) (by decide) (by decide) (fun E9 hx9 t9 hF9 _ _ => ⟨(), trivial, (show jreckon f r op a b = .inl E9 from by rw [jreckon, if_neg c_2, if_neg c_4, if_neg c_6, if_neg c_7, if_pos c_8, hx9, jbind_inl]), hF9⟩) (fun r_9 hr_9 => ?_)
            refine g_callSlX S hs (tX0_limited l hnt t r_9) ml_X0_28 st_yX0_limited in_X0 cd_yX0_limited hd_yX0_limited ⟨by decide, by decide⟩ hE hS hA hl.1 rfl (Nat.le_of_ble_eq_true rfl) ⟨by decide, by decide⟩ dX0_reckon_56 hout hlocks (fun q h => hAA q h) (by decide) (by decide) (fun E9 hx9 t9 hF9 _ _ => ⟨(), trivial, (show jreckon f r op a b = .inl E9 from by rw [jreckon, if_neg c_2, if_neg c_4, if_neg c_6, if_neg c_7, if_pos c_8, hr_9, jbind_inr, hx9, jbind_inl]), hF9⟩) (fun r_10 hr_10 => ?_)
            refine lv_lstore (lv' := [(5, .long r_10), (0, .ref h0), (1, .int r), (2, .int op), (3, .int a), (4, .int b)]) hx hb dX0_reckon_59 hl (by decide) rfl (fun ls hl => ?_)
            refine lv_aload_n hx hb dX0_reckon_61 rfl (lv_at hl 1 rfl) ?_
            refine va_get (ci := 0) (v := .ref h1) (C := RX0) (T := TX0) (N := 1) hx hb hts (fun w h => hs _ (inX0g w h)) hown hK hP 0 rfl rfl 0 (by decide) (hts _ (hs _ fl_X0_9)) (fun _ h9 => h9) rfl dX0_reckon_62 ?_
            refine lv_iload_n hx hb dX0_reckon_65 rfl (lv_at hl 2 rfl) ?_
            refine lv_lload hx hb dX0_reckon_66 (lv_at hl 0 rfl) ?_
            refine va_last hx hb hK hP hD hSw 1 0 rfl rfl (isReg_in c_2) dX0_reckon_68 (fun H locs hP hD hSw => ?_)
            have hP : va_P D vwCl (wX h0 h1 cJ (vp_updL f r.toNatClampNeg r_10)) H := hP
            have hD : va_D A (wX h0 h1 cJ (vp_updL f r.toNatClampNeg r_10)) := hD
            refine lv_lload hx hb dX0_reckon_69 (lv_at hl 0 rfl) ?_
            exact vx_ret (W.widen (by decide) (by decide) (W.lret (v := r_10) hx hb hr (fun t9 ht9 hW9 => ⟨⟨r_10, vp_updL f r.toNatClampNeg r_10, rfl, (by rw [jreckon, if_neg c_2, if_neg c_4, if_neg c_6, if_neg c_7, if_pos c_8, hr_9, jbind_inr, hr_10, jbind_inr]), by rw [ht9]; exact hP, va_K.moved hW9.alike hK, hD⟩, hSw.F ht9⟩) hSw.2.2 dX0_reckon_71 hlocks))
          · exact g_throw S hs hnt (by decide +kernel) cl_X0_21 in_IllegalArgumentException gt_IAE1 gt_IAE2 gt_IAE3 hE hS hl.1 dX0_reckon_31 dX0_reckon_34 dX0_reckon_35 dX0_reckon_38 hout hlocks (by decide) (Nat.le_of_ble_eq_true rfl) (by decide) (by decide) (fun q h => hAA q h) (by decide) (by decide) (fun t9 hF9 _ _ => ⟨(), trivial, (show jreckon f r op a b = .inl gIAE from by rw [jreckon, if_neg c_2, if_neg c_4, if_neg c_6, if_neg c_7, if_neg c_8]), hF9⟩)
def jturn (f : Nat → Int64) (r : Int32) (op : Int32) (a : Int32) : String ⊕ (Int64 × (Nat → Int64)) :=
  if (jX0_isRegister r) = (0 : Int32) then
    .inl gIAE
  else if (jX0_isRegister a) = (0 : Int32) then
    .inl gIAE
  else if op < (0 : Int32) then
    .inl gIAE
  else if op ≤ (3 : Int32) then
    jbind (jlimited (jturned op (f a.toNatClampNeg))) fun r_8 =>
      .inr (r_8, vp_updL f r.toNatClampNeg r_8)
  else .inl gIAE
set_option maxHeartbeats 4000000 in
set_option maxRecDepth 100000 in
theorem tX0_turn (l : Launch) (hnt : l.stackTraces = false) (t : Nat) (D : va_G) (h0 h1 : Nat) (cJ : ClassId) (f : Nat → Int64) (r : Int32) (op : Int32) (a : Int32) : gXl l yX0_turn cX0_turn 6 { frames := 7, cells := 1, slots := 6, locals := 120 } t D h0 h1 cJ f [.int r, .int op, .int a] (fun z9 f9 => jturn f r op a = .inr (z9, f9)) (fun E9 => jturn f r op a = .inl E9) := by
  refine g_openXl (by decide +kernel) (Nat.le_of_ble_eq_true rfl) ?_
  intro p e s m below meth c ls A _ hAA S hr hlocks hout hE hP hK hD hl
  obtain ⟨hx, hb, hml, hown, hts⟩ := id S
  have hs : ∀ w ∈ gws, w ∈ Cond.code yX0_turn cX0_turn 6 (some .long) :: gws := fun w h => List.mem_cons_of_mem _ h
  have hA : ∀ q, s.heap.size ≤ q → gN s.heap.size q := fun _ h => h
  have hS : va_S (gN s.heap.size) s.heap s.heap [] := va_S.rf
  have hSw : va_S A s.heap s.heap [] := va_S.rf
  have hl : lv_has ls 6 [(0, .ref h0), (1, .int r), (2, .int op), (3, .int a)] := hl
  refine lv_iload_n hx hb dX0_turn_0 rfl (lv_at hl 1 rfl) ?_
  refine g_callSi S hs (tX0_isRegister l t r) ml_X0_13 st_yX0_isRegister in_X0 cd_yX0_isRegister hd_yX0_isRegister ⟨by decide, by decide⟩ hE hS hA hl.1 rfl (Nat.le_of_ble_eq_true rfl) ⟨by decide, by decide⟩ dX0_turn_1 (fun r_1 hr_1 => ?_)
  subst hr_1
  refine lv_if_eq (tgt := 23) hx hb dX0_turn_4 (by decide) (fun c_2 => ?_) (fun c_2 => ?_)
  · exact g_throw S hs hnt (by decide +kernel) cl_X0_21 in_IllegalArgumentException gt_IAE1 gt_IAE2 gt_IAE3 hE hS hl.1 dX0_turn_23 dX0_turn_26 dX0_turn_27 dX0_turn_30 hout hlocks (by decide) (Nat.le_of_ble_eq_true rfl) (by decide) (by decide) (fun q h => hAA q h) (by decide) (by decide) (fun t9 hF9 _ _ => ⟨(), trivial, (show jturn f r op a = .inl gIAE from by rw [jturn, if_pos c_2]), hF9⟩)
  · refine lv_iload_n hx hb dX0_turn_7 rfl (lv_at hl 3 rfl) ?_
    refine g_callSi S hs (tX0_isRegister l t a) ml_X0_13 st_yX0_isRegister in_X0 cd_yX0_isRegister hd_yX0_isRegister ⟨by decide, by decide⟩ hE hS hA hl.1 rfl (Nat.le_of_ble_eq_true rfl) ⟨by decide, by decide⟩ dX0_turn_8 (fun r_3 hr_3 => ?_)
    subst hr_3
    refine lv_if_eq (tgt := 23) hx hb dX0_turn_11 (by decide) (fun c_4 => ?_) (fun c_4 => ?_)
    · exact g_throw S hs hnt (by decide +kernel) cl_X0_21 in_IllegalArgumentException gt_IAE1 gt_IAE2 gt_IAE3 hE hS hl.1 dX0_turn_23 dX0_turn_26 dX0_turn_27 dX0_turn_30 hout hlocks (by decide) (Nat.le_of_ble_eq_true rfl) (by decide) (by decide) (fun q h => hAA q h) (by decide) (by decide) (fun t9 hF9 _ _ => ⟨(), trivial, (show jturn f r op a = .inl gIAE from by rw [jturn, if_neg c_2, if_pos c_4]), hF9⟩)
    · refine lv_iload_n hx hb dX0_turn_14 rfl (lv_at hl 2 rfl) ?_
      refine lv_if_lt (tgt := 23) hx hb dX0_turn_15 (by decide) (fun c_5 => ?_) (fun c_5 => ?_)
      · exact g_throw S hs hnt (by decide +kernel) cl_X0_21 in_IllegalArgumentException gt_IAE1 gt_IAE2 gt_IAE3 hE hS hl.1 dX0_turn_23 dX0_turn_26 dX0_turn_27 dX0_turn_30 hout hlocks (by decide) (Nat.le_of_ble_eq_true rfl) (by decide) (by decide) (fun q h => hAA q h) (by decide) (by decide) (fun t9 hF9 _ _ => ⟨(), trivial, (show jturn f r op a = .inl gIAE from by rw [jturn, if_neg c_2, if_neg c_4, if_pos c_5]), hF9⟩)
      · refine lv_iload_n hx hb dX0_turn_18 rfl (lv_at hl 2 rfl) ?_
        refine lv_iconst (v := 3) hx hb dX0_turn_19 (by decide) ?_
        refine lv_icmp_le (tgt := 31) hx hb dX0_turn_20 (by decide) (fun c_6 => ?_) (fun c_6 => ?_)
        · refine lv_iload_n hx hb dX0_turn_31 rfl (lv_at hl 2 rfl) ?_
          refine lv_aload_n hx hb dX0_turn_32 rfl (lv_at hl 0 rfl) ?_
          refine va_get (ci := 0) (v := .ref h1) (C := RX0) (T := TX0) (N := 1) hx hb hts (fun w h => hs _ (inX0g w h)) hown hK hP 0 rfl rfl 0 (by decide) (hts _ (hs _ fl_X0_9)) (fun _ h9 => h9) rfl dX0_turn_33 ?_
          refine lv_iload_n hx hb dX0_turn_36 rfl (lv_at hl 3 rfl) ?_
          refine va_lald hx hb hK hP 1 0 rfl rfl (isReg_in c_4) dX0_turn_37 ?_
          refine g_callSl S hs (tX0_turned l t op (f a.toNatClampNeg)) ml_X0_32 st_yX0_turned in_X0 cd_yX0_turned hd_yX0_turned ⟨by decide, by decide⟩ hE hS hA hl.1 rfl (Nat.le_of_ble_eq_true rfl) ⟨by decide, by decide⟩ dX0_turn_38 (fun r_7 hr_7 => ?_)
          subst hr_7
          refine g_callSlX S hs (tX0_limited l hnt t (jturned op (f a.toNatClampNeg))) ml_X0_28 st_yX0_limited in_X0 cd_yX0_limited hd_yX0_limited ⟨by decide, by decide⟩ hE hS hA hl.1 rfl (Nat.le_of_ble_eq_true rfl) ⟨by decide, by decide⟩ dX0_turn_41 hout hlocks (fun q h => hAA q h) (by decide) (by decide) (fun E9 hx9 t9 hF9 _ _ => ⟨(), trivial, (show jturn f r op a = .inl E9 from by rw [jturn, if_neg c_2, if_neg c_4, if_neg c_5, if_pos c_6, hx9, jbind_inl]), hF9⟩) (fun r_8 hr_8 => ?_)
          refine lv_lstore (lv' := [(4, .long r_8), (0, .ref h0), (1, .int r), (2, .int op), (3, .int a)]) hx hb dX0_turn_44 hl (by decide) rfl (fun ls hl => ?_)
          refine lv_aload_n hx hb dX0_turn_46 rfl (lv_at hl 1 rfl) ?_
          refine va_get (ci := 0) (v := .ref h1) (C := RX0) (T := TX0) (N := 1) hx hb hts (fun w h => hs _ (inX0g w h)) hown hK hP 0 rfl rfl 0 (by decide) (hts _ (hs _ fl_X0_9)) (fun _ h9 => h9) rfl dX0_turn_47 ?_
          refine lv_iload_n hx hb dX0_turn_50 rfl (lv_at hl 2 rfl) ?_
          refine lv_lload hx hb dX0_turn_51 (lv_at hl 0 rfl) ?_
          refine va_last hx hb hK hP hD hSw 1 0 rfl rfl (isReg_in c_2) dX0_turn_53 (fun H locs hP hD hSw => ?_)
          have hP : va_P D vwCl (wX h0 h1 cJ (vp_updL f r.toNatClampNeg r_8)) H := hP
          have hD : va_D A (wX h0 h1 cJ (vp_updL f r.toNatClampNeg r_8)) := hD
          refine lv_lload hx hb dX0_turn_54 (lv_at hl 0 rfl) ?_
          exact vx_ret (W.widen (by decide) (by decide) (W.lret (v := r_8) hx hb hr (fun t9 ht9 hW9 => ⟨⟨r_8, vp_updL f r.toNatClampNeg r_8, rfl, (by rw [jturn, if_neg c_2, if_neg c_4, if_neg c_5, if_pos c_6, hr_8, jbind_inr]), by rw [ht9]; exact hP, va_K.moved hW9.alike hK, hD⟩, hSw.F ht9⟩) hSw.2.2 dX0_turn_56 hlocks))
        · exact g_throw S hs hnt (by decide +kernel) cl_X0_21 in_IllegalArgumentException gt_IAE1 gt_IAE2 gt_IAE3 hE hS hl.1 dX0_turn_23 dX0_turn_26 dX0_turn_27 dX0_turn_30 hout hlocks (by decide) (Nat.le_of_ble_eq_true rfl) (by decide) (by decide) (fun q h => hAA q h) (by decide) (by decide) (fun t9 hF9 _ _ => ⟨(), trivial, (show jturn f r op a = .inl gIAE from by rw [jturn, if_neg c_2, if_neg c_4, if_neg c_5, if_neg c_6]), hF9⟩)
def jround (f : Nat → Int64) (r : Int32) (a : Int32) (d : Int32) : String ⊕ (Int64 × (Nat → Int64)) :=
  if (jX0_isRegister r) = (0 : Int32) then
    .inl gIAE
  else if (jX0_isRegister a) = (0 : Int32) then
    .inl gIAE
  else if d < (-9 : Int32) then
    .inl gIAE
  else if d ≤ (4 : Int32) then
    jbind (jlimited ((jrq (f a.toNatClampNeg) (gP ((4 : Int32) - d).toNatClampNeg)) * (gP ((4 : Int32) - d).toNatClampNeg))) fun r_8 =>
      .inr (r_8, vp_updL f r.toNatClampNeg r_8)
  else .inl gIAE
set_option maxHeartbeats 4000000 in
set_option maxRecDepth 100000 in
theorem tX0_round (l : Launch) (hnt : l.stackTraces = false) (t : Nat) (D : va_G) (h0 h1 : Nat) (cJ : ClassId) (f : Nat → Int64) (r : Int32) (a : Int32) (d : Int32) : gXl l yX0_round cX0_round 8 { frames := 7, cells := 1, slots := 6, locals := 120 } t D h0 h1 cJ f [.int r, .int a, .int d] (fun z9 f9 => jround f r a d = .inr (z9, f9)) (fun E9 => jround f r a d = .inl E9) := by
  refine g_openXl (by decide +kernel) (Nat.le_of_ble_eq_true rfl) ?_
  intro p e s m below meth c ls A _ hAA S hr hlocks hout hE hP hK hD hl
  obtain ⟨hx, hb, hml, hown, hts⟩ := id S
  have hs : ∀ w ∈ gws, w ∈ Cond.code yX0_round cX0_round 8 (some .long) :: gws := fun w h => List.mem_cons_of_mem _ h
  have hA : ∀ q, s.heap.size ≤ q → gN s.heap.size q := fun _ h => h
  have hS : va_S (gN s.heap.size) s.heap s.heap [] := va_S.rf
  have hSw : va_S A s.heap s.heap [] := va_S.rf
  have hl : lv_has ls 8 [(0, .ref h0), (1, .int r), (2, .int a), (3, .int d)] := hl
  refine lv_iload_n hx hb dX0_round_0 rfl (lv_at hl 1 rfl) ?_
  refine g_callSi S hs (tX0_isRegister l t r) ml_X0_13 st_yX0_isRegister in_X0 cd_yX0_isRegister hd_yX0_isRegister ⟨by decide, by decide⟩ hE hS hA hl.1 rfl (Nat.le_of_ble_eq_true rfl) ⟨by decide, by decide⟩ dX0_round_1 (fun r_1 hr_1 => ?_)
  subst hr_1
  refine lv_if_eq (tgt := 25) hx hb dX0_round_4 (by decide) (fun c_2 => ?_) (fun c_2 => ?_)
  · exact g_throw S hs hnt (by decide +kernel) cl_X0_21 in_IllegalArgumentException gt_IAE1 gt_IAE2 gt_IAE3 hE hS hl.1 dX0_round_25 dX0_round_28 dX0_round_29 dX0_round_32 hout hlocks (by decide) (Nat.le_of_ble_eq_true rfl) (by decide) (by decide) (fun q h => hAA q h) (by decide) (by decide) (fun t9 hF9 _ _ => ⟨(), trivial, (show jround f r a d = .inl gIAE from by rw [jround, if_pos c_2]), hF9⟩)
  · refine lv_iload_n hx hb dX0_round_7 rfl (lv_at hl 2 rfl) ?_
    refine g_callSi S hs (tX0_isRegister l t a) ml_X0_13 st_yX0_isRegister in_X0 cd_yX0_isRegister hd_yX0_isRegister ⟨by decide, by decide⟩ hE hS hA hl.1 rfl (Nat.le_of_ble_eq_true rfl) ⟨by decide, by decide⟩ dX0_round_8 (fun r_3 hr_3 => ?_)
    subst hr_3
    refine lv_if_eq (tgt := 25) hx hb dX0_round_11 (by decide) (fun c_4 => ?_) (fun c_4 => ?_)
    · exact g_throw S hs hnt (by decide +kernel) cl_X0_21 in_IllegalArgumentException gt_IAE1 gt_IAE2 gt_IAE3 hE hS hl.1 dX0_round_25 dX0_round_28 dX0_round_29 dX0_round_32 hout hlocks (by decide) (Nat.le_of_ble_eq_true rfl) (by decide) (by decide) (fun q h => hAA q h) (by decide) (by decide) (fun t9 hF9 _ _ => ⟨(), trivial, (show jround f r a d = .inl gIAE from by rw [jround, if_neg c_2, if_pos c_4]), hF9⟩)
    · refine lv_iload_n hx hb dX0_round_14 rfl (lv_at hl 3 rfl) ?_
      refine lv_bipush (v := (-9)) hx hb dX0_round_15 (by decide) ?_
      refine lv_icmp_lt (tgt := 25) hx hb dX0_round_17 (by decide) (fun c_5 => ?_) (fun c_5 => ?_)
      · exact g_throw S hs hnt (by decide +kernel) cl_X0_21 in_IllegalArgumentException gt_IAE1 gt_IAE2 gt_IAE3 hE hS hl.1 dX0_round_25 dX0_round_28 dX0_round_29 dX0_round_32 hout hlocks (by decide) (Nat.le_of_ble_eq_true rfl) (by decide) (by decide) (fun q h => hAA q h) (by decide) (by decide) (fun t9 hF9 _ _ => ⟨(), trivial, (show jround f r a d = .inl gIAE from by rw [jround, if_neg c_2, if_neg c_4, if_pos c_5]), hF9⟩)
      · refine lv_iload_n hx hb dX0_round_20 rfl (lv_at hl 3 rfl) ?_
        refine lv_iconst (v := 4) hx hb dX0_round_21 (by decide) ?_
        refine lv_icmp_le (tgt := 33) hx hb dX0_round_22 (by decide) (fun c_6 => ?_) (fun c_6 => ?_)
        · refine va_gets hx hb hE.2.2.2.2.1 hS hown (hts _ (hs _ fl_X0_36)) (fun _ h => h) dX0_round_33 ?_
          refine lv_iconst (v := 4) hx hb dX0_round_36 (by decide) ?_
          refine lv_iload_n hx hb dX0_round_37 rfl (lv_at hl 3 rfl) ?_
          refine lv_isub hx hb dX0_round_38 ?_
          refine va_tl hx hb hE.2.2.2.2.2 hS (g_ixD (by assumption) (by assumption)) rfl dX0_round_39 ?_
          refine lv_lstore (lv' := [(4, .long (gP ((4 : Int32) - d).toNatClampNeg)), (0, .ref h0), (1, .int r), (2, .int a), (3, .int d)]) hx hb dX0_round_40 hl (by decide) rfl (fun ls hl => ?_)
          refine lv_aload_n hx hb dX0_round_42 rfl (lv_at hl 1 rfl) ?_
          refine va_get (ci := 0) (v := .ref h1) (C := RX0) (T := TX0) (N := 1) hx hb hts (fun w h => hs _ (inX0g w h)) hown hK hP 0 rfl rfl 0 (by decide) (hts _ (hs _ fl_X0_9)) (fun _ h9 => h9) rfl dX0_round_43 ?_
          refine lv_iload_n hx hb dX0_round_46 rfl (lv_at hl 3 rfl) ?_
          refine va_lald hx hb hK hP 1 0 rfl rfl (isReg_in c_4) dX0_round_47 ?_
          refine lv_lload hx hb dX0_round_48 (lv_at hl 0 rfl) ?_
          refine g_callSl S hs (tX0_roundedQuotient l t (f a.toNatClampNeg) (gP ((4 : Int32) - d).toNatClampNeg) (jabs_ne (gP_ne (g_ixD (by assumption) (by assumption))))) ml_X0_39 st_yX0_roundedQuotient in_X0 cd_yX0_roundedQuotient hd_yX0_roundedQuotient ⟨by decide, by decide⟩ hE hS hA hl.1 rfl (Nat.le_of_ble_eq_true rfl) ⟨by decide, by decide⟩ dX0_round_50 (fun r_7 hr_7 => ?_)
          subst hr_7
          refine lv_lload hx hb dX0_round_53 (lv_at hl 0 rfl) ?_
          refine lv_lmul hx hb dX0_round_55 ?_
          refine g_callSlX S hs (tX0_limited l hnt t ((jrq (f a.toNatClampNeg) (gP ((4 : Int32) - d).toNatClampNeg)) * (gP ((4 : Int32) - d).toNatClampNeg))) ml_X0_28 st_yX0_limited in_X0 cd_yX0_limited hd_yX0_limited ⟨by decide, by decide⟩ hE hS hA hl.1 rfl (Nat.le_of_ble_eq_true rfl) ⟨by decide, by decide⟩ dX0_round_56 hout hlocks (fun q h => hAA q h) (by decide) (by decide) (fun E9 hx9 t9 hF9 _ _ => ⟨(), trivial, (show jround f r a d = .inl E9 from by rw [jround, if_neg c_2, if_neg c_4, if_neg c_5, if_pos c_6, hx9, jbind_inl]), hF9⟩) (fun r_8 hr_8 => ?_)
          refine lv_lstore (lv' := [(6, .long r_8), (4, .long (gP ((4 : Int32) - d).toNatClampNeg)), (0, .ref h0), (1, .int r), (2, .int a), (3, .int d)]) hx hb dX0_round_59 hl (by decide) rfl (fun ls hl => ?_)
          refine lv_aload_n hx hb dX0_round_61 rfl (lv_at hl 2 rfl) ?_
          refine va_get (ci := 0) (v := .ref h1) (C := RX0) (T := TX0) (N := 1) hx hb hts (fun w h => hs _ (inX0g w h)) hown hK hP 0 rfl rfl 0 (by decide) (hts _ (hs _ fl_X0_9)) (fun _ h9 => h9) rfl dX0_round_62 ?_
          refine lv_iload_n hx hb dX0_round_65 rfl (lv_at hl 3 rfl) ?_
          refine lv_lload hx hb dX0_round_66 (lv_at hl 0 rfl) ?_
          refine va_last hx hb hK hP hD hSw 1 0 rfl rfl (isReg_in c_2) dX0_round_68 (fun H locs hP hD hSw => ?_)
          have hP : va_P D vwCl (wX h0 h1 cJ (vp_updL f r.toNatClampNeg r_8)) H := hP
          have hD : va_D A (wX h0 h1 cJ (vp_updL f r.toNatClampNeg r_8)) := hD
          refine lv_lload hx hb dX0_round_69 (lv_at hl 0 rfl) ?_
          exact vx_ret (W.widen (by decide) (by decide) (W.lret (v := r_8) hx hb hr (fun t9 ht9 hW9 => ⟨⟨r_8, vp_updL f r.toNatClampNeg r_8, rfl, (by rw [jround, if_neg c_2, if_neg c_4, if_neg c_5, if_pos c_6, hr_8, jbind_inr]), by rw [ht9]; exact hP, va_K.moved hW9.alike hK, hD⟩, hSw.F ht9⟩) hSw.2.2 dX0_round_71 hlocks))
        · exact g_throw S hs hnt (by decide +kernel) cl_X0_21 in_IllegalArgumentException gt_IAE1 gt_IAE2 gt_IAE3 hE hS hl.1 dX0_round_25 dX0_round_28 dX0_round_29 dX0_round_32 hout hlocks (by decide) (Nat.le_of_ble_eq_true rfl) (by decide) (by decide) (fun q h => hAA q h) (by decide) (by decide) (fun t9 hF9 _ _ => ⟨(), trivial, (show jround f r a d = .inl gIAE from by rw [jround, if_neg c_2, if_neg c_4, if_neg c_5, if_neg c_6]), hF9⟩)
def jprint (f : Nat → Int64) (a : Int32) (i : Int32) : String ⊕ (Int32 × (Nat → Int64)) :=
  if (jX0_isRegister a) = (0 : Int32) then
    .inl gIAE
  else if (0 : Int32) ≤ i then
    if (f a.toNatClampNeg) < (0 : Int64) then
      if i = (0 : Int32) then
        .inr ((45 : Int32), f)
      else .inr (jbyte (-(f a.toNatClampNeg)) (i - (1 : Int32)), f)
    else .inr (jbyte (f a.toNatClampNeg) i, f)
  else .inl gIAE
set_option maxHeartbeats 4000000 in
set_option maxRecDepth 100000 in
theorem tX0_print (l : Launch) (hnt : l.stackTraces = false) (t : Nat) (D : va_G) (h0 h1 : Nat) (cJ : ClassId) (f : Nat → Int64) (a : Int32) (i : Int32) : gXi l yX0_print cX0_print 5 { frames := 6, cells := 1, slots := 6, locals := 90 } t D h0 h1 cJ f [.int a, .int i] (fun z9 f9 => jprint f a i = .inr (z9, f9)) (fun E9 => jprint f a i = .inl E9) := by
  refine g_openXi (by decide +kernel) (Nat.le_of_ble_eq_true rfl) ?_
  intro p e s m below meth c ls A _ hAA S hr hlocks hout hE hP hK hD hl
  obtain ⟨hx, hb, hml, hown, hts⟩ := id S
  have hs : ∀ w ∈ gws, w ∈ Cond.code yX0_print cX0_print 5 (some .int) :: gws := fun w h => List.mem_cons_of_mem _ h
  have hA : ∀ q, s.heap.size ≤ q → gN s.heap.size q := fun _ h => h
  have hS : va_S (gN s.heap.size) s.heap s.heap [] := va_S.rf
  have hSw : va_S A s.heap s.heap [] := va_S.rf
  have hl : lv_has ls 5 [(0, .ref h0), (1, .int a), (2, .int i)] := hl
  refine lv_iload_n hx hb dX0_print_0 rfl (lv_at hl 1 rfl) ?_
  refine g_callSi S hs (tX0_isRegister l t a) ml_X0_13 st_yX0_isRegister in_X0 cd_yX0_isRegister hd_yX0_isRegister ⟨by decide, by decide⟩ hE hS hA hl.1 rfl (Nat.le_of_ble_eq_true rfl) ⟨by decide, by decide⟩ dX0_print_1 (fun r_1 hr_1 => ?_)
  subst hr_1
  refine lv_if_eq (tgt := 11) hx hb dX0_print_4 (by decide) (fun c_2 => ?_) (fun c_2 => ?_)
  · exact g_throw S hs hnt (by decide +kernel) cl_X0_21 in_IllegalArgumentException gt_IAE1 gt_IAE2 gt_IAE3 hE hS hl.1 dX0_print_11 dX0_print_14 dX0_print_15 dX0_print_18 hout hlocks (by decide) (Nat.le_of_ble_eq_true rfl) (by decide) (by decide) (fun q h => hAA q h) (by decide) (by decide) (fun t9 hF9 _ _ => ⟨(), trivial, (show jprint f a i = .inl gIAE from by rw [jprint, if_pos c_2]), hF9⟩)
  · refine lv_iload_n hx hb dX0_print_7 rfl (lv_at hl 2 rfl) ?_
    refine lv_if_ge (tgt := 19) hx hb dX0_print_8 (by decide) (fun c_3 => ?_) (fun c_3 => ?_)
    · refine lv_aload_n hx hb dX0_print_19 rfl (lv_at hl 0 rfl) ?_
      refine va_get (ci := 0) (v := .ref h1) (C := RX0) (T := TX0) (N := 1) hx hb hts (fun w h => hs _ (inX0g w h)) hown hK hP 0 rfl rfl 0 (by decide) (hts _ (hs _ fl_X0_9)) (fun _ h9 => h9) rfl dX0_print_20 ?_
      refine lv_iload_n hx hb dX0_print_23 rfl (lv_at hl 1 rfl) ?_
      refine va_lald hx hb hK hP 1 0 rfl rfl (isReg_in c_2) dX0_print_24 ?_
      refine lv_lstore_n (lv' := [(3, .long (f a.toNatClampNeg)), (0, .ref h0), (1, .int a), (2, .int i)]) hx hb dX0_print_25 rfl hl (by decide) rfl (fun ls hl => ?_)
      refine lv_lload_n hx hb dX0_print_26 rfl (lv_at hl 0 rfl) ?_
      refine lv_lconst (v := 0) hx hb dX0_print_27 (by decide) ?_
      refine g_lc_lt (tgt := 38) hx hb dX0_print_28 dX0_print_29 (by decide) (fun c_4 => ?_) (fun c_4 => ?_)
      · refine lv_iload_n hx hb dX0_print_38 rfl (lv_at hl 3 rfl) ?_
        refine lv_if_ne (tgt := 47) hx hb dX0_print_39 (by decide) (fun c_5 => ?_) (fun c_5 => ?_)
        · refine lv_lload_n hx hb dX0_print_47 rfl (lv_at hl 0 rfl) ?_
          refine lv_lneg hx hb dX0_print_48 ?_
          refine lv_iload_n hx hb dX0_print_49 rfl (lv_at hl 3 rfl) ?_
          refine lv_iconst (v := 1) hx hb dX0_print_50 (by decide) ?_
          refine lv_isub hx hb dX0_print_51 ?_
          refine g_callSi S hs (tX0_printedByte l t (-(f a.toNatClampNeg)) (i - (1 : Int32)) (g_ixE (by assumption) (by assumption))) ml_X0_43 st_yX0_printedByte in_X0 cd_yX0_printedByte hd_yX0_printedByte ⟨by decide, by decide⟩ hE hS hA hl.1 rfl (Nat.le_of_ble_eq_true rfl) ⟨by decide, by decide⟩ dX0_print_52 (fun r_6 hr_6 => ?_)
          subst hr_6
          exact vx_ret (W.widen (by decide) (by decide) (W.iret (v := jbyte (-(f a.toNatClampNeg)) (i - (1 : Int32))) hx hb hr (fun t9 ht9 hW9 => ⟨⟨jbyte (-(f a.toNatClampNeg)) (i - (1 : Int32)), f, rfl, (by rw [jprint, if_neg c_2, if_pos c_3, if_pos c_4, if_neg c_5]), by rw [ht9]; exact hP, va_K.moved hW9.alike hK, hD⟩, hSw.F ht9⟩) hSw.2.2 dX0_print_55 hlocks))
        · refine lv_bipush (v := 45) hx hb dX0_print_42 (by decide) ?_
          refine lv_goto (tgt := 55) hx hb dX0_print_44 (by decide) ?_
          exact vx_ret (W.widen (by decide) (by decide) (W.iret (v := (45 : Int32)) hx hb hr (fun t9 ht9 hW9 => ⟨⟨(45 : Int32), f, rfl, (by rw [jprint, if_neg c_2, if_pos c_3, if_pos c_4, if_pos c_5]), by rw [ht9]; exact hP, va_K.moved hW9.alike hK, hD⟩, hSw.F ht9⟩) hSw.2.2 dX0_print_55 hlocks))
      · refine lv_lload_n hx hb dX0_print_32 rfl (lv_at hl 0 rfl) ?_
        refine lv_iload_n hx hb dX0_print_33 rfl (lv_at hl 3 rfl) ?_
        refine g_callSi S hs (tX0_printedByte l t (f a.toNatClampNeg) i (Int32.not_lt.mpr (by assumption))) ml_X0_43 st_yX0_printedByte in_X0 cd_yX0_printedByte hd_yX0_printedByte ⟨by decide, by decide⟩ hE hS hA hl.1 rfl (Nat.le_of_ble_eq_true rfl) ⟨by decide, by decide⟩ dX0_print_34 (fun r_7 hr_7 => ?_)
        subst hr_7
        exact vx_ret (W.widen (by decide) (by decide) (W.iret (v := jbyte (f a.toNatClampNeg) i) hx hb hr (fun t9 ht9 hW9 => ⟨⟨jbyte (f a.toNatClampNeg) i, f, rfl, (by rw [jprint, if_neg c_2, if_pos c_3, if_neg c_4]), by rw [ht9]; exact hP, va_K.moved hW9.alike hK, hD⟩, hSw.F ht9⟩) hSw.2.2 dX0_print_37 hlocks))
    · exact g_throw S hs hnt (by decide +kernel) cl_X0_21 in_IllegalArgumentException gt_IAE1 gt_IAE2 gt_IAE3 hE hS hl.1 dX0_print_11 dX0_print_14 dX0_print_15 dX0_print_18 hout hlocks (by decide) (Nat.le_of_ble_eq_true rfl) (by decide) (by decide) (fun q h => hAA q h) (by decide) (by decide) (fun t9 hF9 _ _ => ⟨(), trivial, (show jprint f a i = .inl gIAE from by rw [jprint, if_neg c_2, if_neg c_3]), hF9⟩)
end
section
/-! ===== the class: average, and the constructor ===== -/
/-- the running sum: fuel, the next register, the sum so far -/
def javgF (f : Nat → Int64) (n : Nat) : Nat → Nat → Int64 → String ⊕ Int64
  | 0, _, v => .inr v
  | i + 1, k, v => if k < n then jbind (jlimited (v + f k)) (fun r => javgF f n i (k + 1) r) else .inr v
def javerage (f : Nat → Int64) (n : Int32) : String ⊕ (Int64 × (Nat → Int64)) :=
  if n < (1 : Int32) then .inl gIAE
  else if n ≤ (8 : Int32) then jbind (javgF f n.toNatClampNeg 9 0 0) fun v => .inr (jrq v n.toInt64, f)
  else .inl gIAE
theorem g_n8 {n : Int32} (h1 : ¬ n < (1 : Int32)) (h2 : n ≤ (8 : Int32)) : ∃ N : Nat, 1 ≤ N ∧ N ≤ 8 ∧ n = nI N := by
  have h0 : ¬ n < 0 := fun q => h1 (Int32.lt_trans q (by decide))
  obtain ⟨j, hj, rfl⟩ := nI_of2 (M := 8) (n := 8) rfl h0 h2
  refine ⟨j, ?_, hj, rfl⟩
  rcases Nat.eq_zero_or_pos j with q | q
  · subst q
    exact absurd (by decide) h1
  · exact q
theorem g_n8L : ∀ N, N < 9 → 1 ≤ N → ¬ jabs (nI N).toInt64 = 0 := by decide
set_option maxHeartbeats 4000000 in
set_option maxRecDepth 100000 in
theorem tX0_average (l : Launch) (hnt : l.stackTraces = false) (t : Nat) (D : va_G) (h0 h1 : Nat) (cJ : ClassId) (f : Nat → Int64) (n : Int32) : gXl l yX0_average cX0_average 5 { frames := 7, cells := 1, slots := 6, locals := 120 } t D h0 h1 cJ f [.int n] (fun z9 f9 => javerage f n = .inr (z9, f9)) (fun E9 => javerage f n = .inl E9) := by
  refine g_openXl (by decide +kernel) (Nat.le_of_ble_eq_true rfl) ?_
  intro p e s m below meth c ls A _ hAA S hr hlocks hout hE hP hK hD hl
  obtain ⟨hx, hb, hml, hown, hts⟩ := id S
  have hs : ∀ w ∈ gws, w ∈ Cond.code yX0_average cX0_average 5 (some .long) :: gws := fun w h => List.mem_cons_of_mem _ h
  have hA : ∀ q, s.heap.size ≤ q → gN s.heap.size q := fun _ h => h
  have hS : va_S (gN s.heap.size) s.heap s.heap [] := va_S.rf
  have hSw : va_S A s.heap s.heap [] := va_S.rf
  have hl : lv_has ls 5 [(0, .ref h0), (1, .int n)] := hl
  have bad : n < (1 : Int32) ∨ ¬ n ≤ (8 : Int32) → ∀ ls : Array Slot, ls.size = 5 → W p l e { frames := 7, cells := 1, slots := 6, locals := 120 } s m (Value.ref h0 :: [Value.int n]).toArray below meth c s.heap [] 0 0 (vx_MQ below (va_Ql (fun z9 f9 => javerage f n = .inr (z9, f9)) (fun f' t' => va_P D vwCl (wX h0 h1 cJ f') t'.heap ∧ va_K D vwCl [(cJ, .long)] t' ∧ va_D A (wX h0 h1 cJ f')) A) (gXC (fun E9 => javerage f n = .inl E9) s.heap.size) (Value.ref h0 :: [Value.int n]).toArray s 1 6 A) (F0 m 11 ls []) := by
    intro hbad ls hls
    refine g_throw S hs hnt (by decide +kernel) cl_X0_21 in_IllegalArgumentException gt_IAE1 gt_IAE2 gt_IAE3 hE hS hls dX0_average_11 dX0_average_14 dX0_average_15 dX0_average_18 hout hlocks (by decide) (Nat.le_of_ble_eq_true rfl) (by decide) (by decide) (fun q h => hAA q h) (by decide) (by decide) (fun t9 hF9 _ _ => ⟨(), trivial, (show javerage f n = .inl gIAE from ?_), hF9⟩)
    by_cases q : n < (1 : Int32)
    · rw [javerage, if_pos q]
    · rw [javerage, if_neg q, if_neg (hbad.resolve_left q)]
  refine lv_iload_n hx hb dX0_average_0 rfl (lv_at hl 1 rfl) ?_
  refine lv_iconst (v := 1) hx hb dX0_average_1 (by decide) ?_
  refine lv_icmp_lt (tgt := 11) hx hb dX0_average_2 (by decide) (fun c_1 => bad (Or.inl c_1) ls hl.1) (fun c_1 => ?_)
  refine lv_iload_n hx hb dX0_average_5 rfl (lv_at hl 1 rfl) ?_
  refine lv_bipush (v := 8) hx hb dX0_average_6 (by decide) ?_
  refine lv_icmp_le (tgt := 19) hx hb dX0_average_8 (by decide) (fun c_2 => ?_) (fun c_2 => bad (Or.inr c_2) ls hl.1)
  have hdef : javerage f n = jbind (javgF f n.toNatClampNeg 9 0 0) fun v => .inr (jrq v n.toInt64, f) := by rw [javerage, if_neg c_1, if_pos c_2]
  obtain ⟨N, hN1, hN8, hN⟩ := g_n8 c_1 c_2
  subst hN
  rw [nI_clamp (by omega)] at hdef
  refine lv_lconst (v := 0) hx hb dX0_average_19 (by decide) ?_
  refine lv_lstore_n (lv' := [(2, .long 0), (0, .ref h0), (1, .int (nI N))]) hx hb dX0_average_20 rfl hl (by decide) rfl (fun ls hl => ?_)
  refine lv_iconst (v := 0) hx hb dX0_average_21 (by decide) ?_
  refine lv_istore (lv' := [(4, .int 0), (2, .long 0), (0, .ref h0), (1, .int (nI N))]) hx hb dX0_average_22 hl (by decide) rfl (fun ls hl => ?_)
  have loop : ∀ (i k : Nat) (v : Int64) (ls : Array Slot), k ≤ N → N < k + i → javgF f N i k v = javgF f N 9 0 0 → lv_has ls 5 [(4, .int (nI k)), (2, .long v), (0, .ref h0), (1, .int (nI N))] →
      W p l e { frames := 7, cells := 1, slots := 6, locals := 120 } s m (Value.ref h0 :: [Value.int (nI N)]).toArray below meth c s.heap [] 0 0 (vx_MQ below (va_Ql (fun z9 f9 => javerage f (nI N) = .inr (z9, f9)) (fun f' t' => va_P D vwCl (wX h0 h1 cJ f') t'.heap ∧ va_K D vwCl [(cJ, .long)] t' ∧ va_D A (wX h0 h1 cJ f')) A) (gXC (fun E9 => javerage f (nI N) = .inl E9) s.heap.size) (Value.ref h0 :: [Value.int (nI N)]).toArray s 1 6 A) (F0 m 24 ls []) := by
    intro i
    induction i with
    | zero => intro k v ls h1 h2; omega
    | succ i ih =>
      intro k v ls hk hi heq hl
      refine lv_iload hx hb dX0_average_24 (lv_at hl 0 rfl) ?_
      refine lv_iload_n hx hb dX0_average_26 rfl (lv_at hl 3 rfl) ?_
      refine lv_icmp_ge (tgt := 49) hx hb dX0_average_27 (by decide) (fun c_3 => ?_) (fun c_3 => ?_)
      · rw [nI_leI (by omega) (by omega)] at c_3
        refine lv_lload_n hx hb dX0_average_49 rfl (lv_at hl 1 rfl) ?_
        refine lv_iload_n hx hb dX0_average_50 rfl (lv_at hl 3 rfl) ?_
        refine lv_i2l hx hb dX0_average_51 rfl ?_
        refine g_callSl S hs (tX0_roundedQuotient l t v (nI N).toInt64 (g_n8L N (by omega) hN1)) ml_X0_39 st_yX0_roundedQuotient in_X0 cd_yX0_roundedQuotient hd_yX0_roundedQuotient ⟨by decide, by decide⟩ hE hS hA hl.1 rfl (Nat.le_of_ble_eq_true rfl) ⟨by decide, by decide⟩ dX0_average_52 (fun r_1 hr_1 => ?_)
        subst hr_1
        exact vx_ret (W.widen (by decide) (by decide) (W.lret (v := jrq v (nI N).toInt64) hx hb hr (fun t9 ht9 hW9 => ⟨⟨_, f, rfl, (by rw [hdef, ← heq, javgF, if_neg (by omega), jbind_inr]), by rw [ht9]; exact hP, va_K.moved hW9.alike hK, hD⟩, hSw.F ht9⟩) hSw.2.2 dX0_average_55 hlocks))
      · rw [nI_leI (by omega) (by omega)] at c_3
        refine lv_lload_n hx hb dX0_average_30 rfl (lv_at hl 1 rfl) ?_
        refine lv_aload_n hx hb dX0_average_31 rfl (lv_at hl 2 rfl) ?_
        refine va_get (ci := 0) (v := .ref h1) (C := RX0) (T := TX0) (N := 1) hx hb hts (fun w h => hs _ (inX0g w h)) hown hK hP 0 rfl rfl 0 (by decide) (hts _ (hs _ fl_X0_9)) (fun _ h9 => h9) rfl dX0_average_32 ?_
        refine lv_iload hx hb dX0_average_35 (lv_at hl 0 rfl) ?_
        refine va_lald hx hb hK hP 1 0 rfl rfl (vp_in_nI (by omega) (by decide)) dX0_average_37 ?_
        refine lv_ladd hx hb dX0_average_38 ?_
        rw [nI_clamp (by omega)]
        refine g_callSlX S hs (tX0_limited l hnt t (v + f k)) ml_X0_28 st_yX0_limited in_X0 cd_yX0_limited hd_yX0_limited ⟨by decide, by decide⟩ hE hS hA hl.1 rfl (Nat.le_of_ble_eq_true rfl) ⟨by decide, by decide⟩ dX0_average_39 hout hlocks (fun q h => hAA q h) (by decide) (by decide) (fun E9 hx9 t9 hF9 _ _ => ⟨(), trivial, (show javerage f (nI N) = .inl E9 from by rw [hdef, ← heq, javgF, if_pos (by omega), hx9, jbind_inl, jbind_inl]), hF9⟩) (fun r_2 hr_2 => ?_)
        refine lv_lstore_n (lv' := [(2, .long r_2), (4, .int (nI k)), (0, .ref h0), (1, .int (nI N))]) hx hb dX0_average_42 rfl hl (by decide) rfl (fun ls hl => ?_)
        refine lv_iinc (lv' := [(4, .int (nI k + 1)), (2, .long r_2), (0, .ref h0), (1, .int (nI N))]) hx hb dX0_average_43 hl (k := 1) rfl rfl (by decide) rfl (fun ls hl => ?_)
        refine lv_goto (tgt := 24) hx hb dX0_average_46 (by decide) ?_
        exact ih (k + 1) r_2 ls (by omega) (by omega) (by rw [← heq, javgF, if_pos (by omega), hr_2, jbind_inr]) (by rw [← nI_1]; exact hl)
  exact loop 9 0 0 ls (by omega) (by omega) rfl hl
set_option maxHeartbeats 4000000 in
set_option maxRecDepth 100000 in
/-- the constructor: eight registers, all 0 -/
theorem tX0_init (l : Launch) (D : va_G) (h0 sz : Nat) : Met l yX0_init (Cond.code yX0_init cX0_init 1 none :: gws) ({ frames := 1, cells := 1, slots := 8, locals := 12 }) (va_Pc [.ref h0] (fun U => U.heap.size = sz ∧ va_P D vwCl [(h0, .inr (0, [.null]))] U.heap ∧ va_K D vwCl [] U ∧ va_D (fun _ => True) [(h0, .inr (0, [.null]))]))
    (va_Qv (fun _ : Unit => True) (fun _ t' => ∃ (h1 : Nat) (cJ : ClassId), va_P D vwCl (wX h0 h1 cJ (fun _ => 0)) t'.heap ∧ va_K D vwCl [(cJ, .long)] t' ∧ va_D (va_A [(h0, .inr (0, [.null]))] sz) (wX h0 h1 cJ (fun _ => 0))) (va_A [(h0, .inr (0, [.null]))] sz)) 1 8 (va_A [(h0, .inr (0, [.null]))] sz) := by
  refine Met.ofW (cc := cX0_init) (maxL := 1) (ret := none) (by decide) rfl ?_
  intro p e s m args below meth c s₁ B hml hv
  obtain ⟨rfl, hsz, hP, hK, hD0⟩ := hv
  have hx := B.exec
  have hb := B.bytes
  have hr := B.returns
  have hts := atoms_spec (ws := Cond.code yX0_init cX0_init 1 none :: gws) B.pre
  have hs : ∀ w ∈ gws, w ∈ Cond.code yX0_init cX0_init 1 none :: gws := fun w h => List.mem_cons_of_mem _ h
  have hown : s.vm.findClass RX0 = some m.cls := findClass_of_methodNamed B.named
  have hlocks := B.notSynchronized
  have hin : meth.name = "<init>" := (name_of_methodNamed B.named B.method).1
  subst hsz
  have hD := hD0.self (sz := s.heap.size)
  generalize hAe : va_A [(h0, .inr (0, [.null]))] s.heap.size = A at hD ⊢
  have hA : ∀ q : Nat, s.heap.size ≤ q → A q := fun q h => by rw [← hAe]; exact Or.inr h
  have hS : va_S A s.heap s.heap [] := va_S.rf
  have hl := lv_entry ([.ref h0]) (n := 1) (Nat.le_of_ble_eq_true rfl)
  rw [lg_entry_eq]
  generalize (lg_sl ([.ref h0]) ++ List.replicate (1 - (lg_sl ([.ref h0])).length) Slot.unset).toArray = ls at hl ⊢
  have hl : lv_has ls 1 [(0, .ref h0)] := hl
  refine lv_aload_n hx hb dX0_init_0 rfl (lv_at hl 0 rfl) ?_
  refine W.objInit hx hb hown (hts _ (hs _ ml_X0_1)) (hts _ (hs _ im_objectInit)) (hts _ (hs _ cd_objectInit)) rfl (by rw [hml]; exact hl.1) rfl dX0_init_1 (Nat.le_of_ble_eq_true rfl) (Nat.le_of_ble_eq_true rfl) ?_
  refine W.eq (g2 := F0 m 4 ls []) rfl ?_
  refine lv_aload_n hx hb dX0_init_4 rfl (lv_at hl 0 rfl) ?_
  refine lv_bipush (v := 8) hx hb dX0_init_5 (by decide) ?_
  refine va_newa (atype := .long) hx hb (hts _ (hs _ ac_long)) rfl hK hP hD hS hA (N' := 8) (a0 := (8, .inr (.inl (fun _ => 0)))) (fun cA => rfl) (by decide) (by decide) (by decide) (by decide) (by decide) dX0_init_7 (fun q cA H hK hP hD hS => ?_)
  refine va_putF (ci := 0) (v := .ref q) (ty := .array .long) (C := RX0) (T := TX0) (N := 1) hx hb hts (fun w h => hs _ (inX0g w h)) tyX0 tyX0_ok nmX0 hown hK hP hD hS 0 rfl rfl 0 (by decide) (hts _ (hs _ fl_X0_9)) (fun _ h9 => h9) rfl hin rfl (by decide +kernel) rfl rfl (Nat.le_of_ble_eq_true rfl) dX0_init_9 (fun H locs hP hD hS => ?_)
  have hP : va_P D vwCl (wX h0 q cA (fun _ => 0)) H := hP
  have hD : va_D A (wX h0 q cA (fun _ => 0)) := hD
  exact W.vret hx hb hr (fun t ht hW => ⟨⟨(), rfl, trivial, q, cA, by rw [ht]; exact hP, va_K.moved hW.alike hK, hD⟩, hS.F ht⟩) hS.2.2 dX0_init_12
end
section
/-! ===== the reference's object: its cells, its contracts ===== -/
abbrev mS : Type := Int32 × (Nat → Int64) × (Nat → Int32)
/-- the reference: its object, the registers, the printed bytes -/
abbrev wM (m0 m1 m2 : Nat) (cJ cI : ClassId) (u : mS) : va_W := [(m0, .inr (1, [.int u.1, .ref m1, .ref m2])), (m1, .inl (cJ, 8, .inr (.inl u.2.1))), (m2, .inl (cI, 24, .inl u.2.2))]
abbrev gMPre (t : Nat) (D : va_G) (m0 m1 m2 : Nat) (cJ cI : ClassId) (u : mS) (sz : Nat) (As : List Value) : Array Value → State → Prop :=
  va_Pc (.ref m0 :: As) (fun U => U.heap.size = sz ∧ gE t (va_A (wM m0 m1 m2 cJ cI u) sz) U U.heap ∧ va_P D vwCl (wM m0 m1 m2 cJ cI u) U.heap ∧ va_K D vwCl [(cJ, .long), (cI, .int)] U ∧ va_D (fun _ => True) (wM m0 m1 m2 cJ cI u))
theorem gMPre_blind (t : Nat) (D : va_G) (m0 m1 m2 : Nat) (cJ cI : ClassId) (u : mS) (sz : Nat) (As : List Value) : FrameBlind (gMPre t D m0 m1 m2 cJ cI u sz As) := fun a U g mk q =>
  ⟨q.1, q.2.1, (show gE t (va_A (wM m0 m1 m2 cJ cI u) sz) _ U.heap from gE.same (u := U) rfl q.2.2.1), q.2.2.2.1, va_K.moved (u := U) (U := U.calling g mk a) (Vm.Alike.refl U.vm) q.2.2.2.2.1, q.2.2.2.2.2⟩
abbrev gMB (D : va_G) (m0 m1 m2 : Nat) (cJ cI : ClassId) (A : Nat → Prop) : mS → State → Prop := fun u' t' => va_P D vwCl (wM m0 m1 m2 cJ cI u') t'.heap ∧ va_K D vwCl [(cJ, .long), (cI, .int)] t' ∧ va_D A (wM m0 m1 m2 cJ cI u')
def gMl (l : Launch) (y : MethodName) (b : ByteArray) (n : Nat) (rm : Room) (t : Nat) (D : va_G) (m0 m1 m2 : Nat) (cJ cI : ClassId) (u : mS) (As : List Value) (post : Int64 → mS → Prop) : Prop :=
  ∀ sz, Met l y (Cond.code y b n (some .long) :: gws) rm (gMPre t D m0 m1 m2 cJ cI u sz As) (va_Ql post (gMB D m0 m1 m2 cJ cI (va_A (wM m0 m1 m2 cJ cI u) sz)) (va_A (wM m0 m1 m2 cJ cI u) sz)) rm.cells rm.slots (va_A (wM m0 m1 m2 cJ cI u) sz)
def gMi (l : Launch) (y : MethodName) (b : ByteArray) (n : Nat) (rm : Room) (t : Nat) (D : va_G) (m0 m1 m2 : Nat) (cJ cI : ClassId) (u : mS) (As : List Value) (post : Int32 → mS → Prop) : Prop :=
  ∀ sz, Met l y (Cond.code y b n (some .int) :: gws) rm (gMPre t D m0 m1 m2 cJ cI u sz As) (va_Qi post (gMB D m0 m1 m2 cJ cI (va_A (wM m0 m1 m2 cJ cI u) sz)) (va_A (wM m0 m1 m2 cJ cI u) sz)) rm.cells rm.slots (va_A (wM m0 m1 m2 cJ cI u) sz)
section GM
variable {l : Launch} {y : MethodName} {b : ByteArray} {n : Nat} {rm : Room} {t : Nat} {D : va_G} {m0 m1 m2 : Nat} {cJ cI : ClassId} {u : mS} {As : List Value}
theorem g_openMl {post : Int64 → mS → Prop} (hy : plainName y.cls = true) (hn : (lg_sl (.ref m0 :: As)).length ≤ n)
    (body : ∀ (p : Program) (e : Env) (s : State) (m : MethodId) (below : List Frame) (meth : Method) (c : Code) (ls : Array Slot) (A : Nat → Prop), (∀ q, s.heap.size ≤ q → A q) → CallFix p m c b n s (Value.ref m0 :: As).toArray (Cond.code y b n (some .long) :: gws) y.cls → meth.sig.returnType = some .long → meth.locks = false → gE t A s s.heap → va_P D vwCl (wM m0 m1 m2 cJ cI u) s.heap → va_K D vwCl [(cJ, .long), (cI, .int)] s → va_D A (wM m0 m1 m2 cJ cI u) → lv_has ls n (lv_args 0 (.ref m0 :: As)) →
      W p l e rm s m (Value.ref m0 :: As).toArray below meth c s.heap [] 0 0 (MQ below (va_Ql post (gMB D m0 m1 m2 cJ cI A) A) (Value.ref m0 :: As).toArray s rm.cells rm.slots A) (F0 m 0 ls [])) : gMl l y b n rm t D m0 m1 m2 cJ cI u As post := by
  intro sz
  refine Met.ofW (cc := b) (maxL := n) (ret := some .long) hy rfl ?_
  intro p e s m args below meth c s₁ B hml hv
  obtain ⟨rfl, hsz, hE, hP, hK, hD⟩ := hv
  subst hsz
  rw [lg_entry_eq]
  exact body p e s m below meth c _ _ (fun q h => Or.inr h) ⟨B.exec, B.bytes, hml, findClass_of_methodNamed B.named, atoms_spec (ws := Cond.code y b n (some .long) :: gws) B.pre⟩ B.returns B.notSynchronized hE hP hK hD.self (lv_entry (.ref m0 :: As) hn)
theorem g_openMi {post : Int32 → mS → Prop} (hy : plainName y.cls = true) (hn : (lg_sl (.ref m0 :: As)).length ≤ n)
    (body : ∀ (p : Program) (e : Env) (s : State) (m : MethodId) (below : List Frame) (meth : Method) (c : Code) (ls : Array Slot) (A : Nat → Prop), (∀ q, s.heap.size ≤ q → A q) → CallFix p m c b n s (Value.ref m0 :: As).toArray (Cond.code y b n (some .int) :: gws) y.cls → meth.sig.returnType = some .int → meth.locks = false → gE t A s s.heap → va_P D vwCl (wM m0 m1 m2 cJ cI u) s.heap → va_K D vwCl [(cJ, .long), (cI, .int)] s → va_D A (wM m0 m1 m2 cJ cI u) → lv_has ls n (lv_args 0 (.ref m0 :: As)) →
      W p l e rm s m (Value.ref m0 :: As).toArray below meth c s.heap [] 0 0 (MQ below (va_Qi post (gMB D m0 m1 m2 cJ cI A) A) (Value.ref m0 :: As).toArray s rm.cells rm.slots A) (F0 m 0 ls [])) : gMi l y b n rm t D m0 m1 m2 cJ cI u As post := by
  intro sz
  refine Met.ofW (cc := b) (maxL := n) (ret := some .int) hy rfl ?_
  intro p e s m args below meth c s₁ B hml hv
  obtain ⟨rfl, hsz, hE, hP, hK, hD⟩ := hv
  subst hsz
  rw [lg_entry_eq]
  exact body p e s m below meth c _ _ (fun q h => Or.inr h) ⟨B.exec, B.bytes, hml, findClass_of_methodNamed B.named, atoms_spec (ws := Cond.code y b n (some .int) :: gws) B.pre⟩ B.returns B.notSynchronized hE hP hK hD.self (lv_entry (.ref m0 :: As) hn)
/-- a method of the object that touches nothing at all -/
abbrev gPPre (sz b0 : Nat) (As : List Value) : Array Value → State → Prop := va_Pc (.ref b0 :: As) (fun U => U.heap.size = sz)
def gPl (l : Launch) (y : MethodName) (b : ByteArray) (n : Nat) (rm : Room) (b0 : Nat) (As : List Value) (post : Int64 → Prop) : Prop :=
  ∀ sz, Met l y (Cond.code y b n (some .long) :: gws) rm (gPPre sz b0 As) (va_Ql (fun r (_ : Unit) => post r) (fun _ t' => t'.heap.size = sz) (gN sz)) rm.cells rm.slots (gN sz)
def gPi (l : Launch) (y : MethodName) (b : ByteArray) (n : Nat) (ty : FieldType) (rm : Room) (b0 : Nat) (As : List Value) (post : Int32 → Prop) : Prop :=
  ∀ sz, Met l y (Cond.code y b n (some ty) :: gws) rm (gPPre sz b0 As) (va_Qi (fun r (_ : Unit) => post r) (fun _ t' => t'.heap.size = sz) (gN sz)) rm.cells rm.slots (gN sz)
theorem g_openPl {b0 : Nat} {post : Int64 → Prop} (hy : plainName y.cls = true) (hn : (lg_sl (.ref b0 :: As)).length ≤ n)
    (body : ∀ (p : Program) (e : Env) (s : State) (m : MethodId) (below : List Frame) (meth : Method) (c : Code) (ls : Array Slot), CallFix p m c b n s (Value.ref b0 :: As).toArray (Cond.code y b n (some .long) :: gws) y.cls → meth.sig.returnType = some .long → meth.locks = false → lv_has ls n (lv_args 0 (.ref b0 :: As)) →
      W p l e rm s m (Value.ref b0 :: As).toArray below meth c s.heap [] 0 0 (MQ below (va_Ql (fun r (_ : Unit) => post r) (fun _ t' => t'.heap.size = s.heap.size) (gN s.heap.size)) (Value.ref b0 :: As).toArray s rm.cells rm.slots (gN s.heap.size)) (F0 m 0 ls [])) : gPl l y b n rm b0 As post := by
  intro sz
  refine Met.ofW (cc := b) (maxL := n) (ret := some .long) hy rfl ?_
  intro p e s m args below meth c s₁ B hml hv
  obtain ⟨rfl, hsz⟩ := hv
  subst hsz
  rw [lg_entry_eq]
  exact body p e s m below meth c _ ⟨B.exec, B.bytes, hml, findClass_of_methodNamed B.named, atoms_spec (ws := Cond.code y b n (some .long) :: gws) B.pre⟩ B.returns B.notSynchronized (lv_entry (.ref b0 :: As) hn)
theorem g_openPi {b0 : Nat} {ty : FieldType} {post : Int32 → Prop} (hy : plainName y.cls = true) (hn : (lg_sl (.ref b0 :: As)).length ≤ n)
    (body : ∀ (p : Program) (e : Env) (s : State) (m : MethodId) (below : List Frame) (meth : Method) (c : Code) (ls : Array Slot), CallFix p m c b n s (Value.ref b0 :: As).toArray (Cond.code y b n (some ty) :: gws) y.cls → meth.sig.returnType = some ty → meth.locks = false → lv_has ls n (lv_args 0 (.ref b0 :: As)) →
      W p l e rm s m (Value.ref b0 :: As).toArray below meth c s.heap [] 0 0 (MQ below (va_Qi (fun r (_ : Unit) => post r) (fun _ t' => t'.heap.size = s.heap.size) (gN s.heap.size)) (Value.ref b0 :: As).toArray s rm.cells rm.slots (gN s.heap.size)) (F0 m 0 ls [])) : gPi l y b n ty rm b0 As post := by
  intro sz
  refine Met.ofW (cc := b) (maxL := n) (ret := some ty) hy rfl ?_
  intro p e s m args below meth c s₁ B hml hv
  obtain ⟨rfl, hsz⟩ := hv
  subst hsz
  rw [lg_entry_eq]
  exact body p e s m below meth c _ ⟨B.exec, B.bytes, hml, findClass_of_methodNamed B.named, atoms_spec (ws := Cond.code y b n (some ty) :: gws) B.pre⟩ B.returns B.notSynchronized (lv_entry (.ref b0 :: As) hn)
end GM
section GMC
variable {p : Program} {l : Launch} {e : Env} {R : Room} {s : State} {m : MethodId} {args : Array Value} {below : List Frame} {meth : Method} {c : Code} {H : Heap} {locs : List Loc} {cells slots : Nat} {Q : State → Prop}
variable {cc : ByteArray} {pc : Nat} {ls : Array Slot} {rest st0 : List Value} {A0 : Nat → Prop} {Ts : List Cond} {own : String} {nL : Nat}
variable {y : MethodName} {b : ByteArray} {n index t : Nat} {rm : Room} {As : List Value} {D : va_G} {m0 m1 m2 : Nat} {cJ cI : ClassId} {u : mS}
theorem g_callPl {post : Int64 → Prop} {b0 : Nat} (S : CallFix p m c cc nL s args Ts own) (hs : ∀ w ∈ gws, w ∈ Ts) (hM : gPl l y b n rm b0 As post) (hrec : ∃ cellB : Cell, H[b0]? = some cellB ∧ cellB.vm.isStatics = false ∧ s.vm.findClass y.cls = some cellB.cls)
    (h1 : Cond.methodLink own index y ∈ gws) (h2 : Cond.instanceMethod y ∈ gws) (h3 : Cond.selects y.cls y y ∈ gws) (h5 : Cond.initialized y.cls ∈ gws) (h4 : Cond.code y b n (some .long) ∈ gws)
    (hd : y.cls ≠ "java/lang/invoke/MethodHandle" ∧ y.cls ≠ "java/lang/invoke/VarHandle" ∧ (parseMethodDescriptor y.desc).map (fun d => d.parameters.length) = some As.length)
    (hR : rm.frames + 1 ≤ R.frames ∧ 8 + (n + 11) + rm.locals ≤ R.locals) (hsize : ls.size = nL) (hstack : st0 = As.reverse ++ .ref b0 :: rest) (hW : (rest.map fun v => v.category).sum ≤ 8) (hf : cells + rm.cells ≤ R.cells ∧ slots + rm.slots ≤ R.slots) (hdg : decode cc pc = .ok (.invokevirtual index, 3))
    (kk : ∀ r : Int64, post r → W p l e R s m args below meth c H locs cells slots Q (F0 m (pc + 3) ls (.long r :: rest))) :
    W p l e R s m args below meth c H locs cells slots Q (F0 m pc ls st0) := by
  intro T hT X
  obtain ⟨v, st₀, t', T', L, h0, X', hL, e1, e2, ⟨⟨r, u, hv, hp, hb⟩, hz, hk⟩, st⟩ := (va_runV (As := As) (rest := rest) (g := F0 m pc ls st0) S (hM H.size) (cwV As.length S.2.2.2.2 (gw_V hs h1 h2 h3 h5 h4) rfl rfl rfl ⟨rfl, hd⟩ hR) ⟨fun a U g mk q => q, hrec, fun U hU _ => ⟨rfl, congrArg Array.size hU⟩⟩ rfl rfl hsize hstack (lv_room hW) hdg hf) T hT X
  cases hv
  rw [h0] at hz hk
  have hh : T'.heap = H := g_heap (by rw [e1]; exact hb) (fun q hq => by rw [e1]; exact hk q hq (g_lt hq))
  obtain ⟨t2, a1, b1⟩ := kk r hp T' hh (g_back X X' (by rw [hh, hT]))
  exact ⟨t2, st t2 a1, b1⟩
theorem g_callPi {post : Int32 → Prop} {ty : FieldType} {b0 : Nat} (S : CallFix p m c cc nL s args Ts own) (hs : ∀ w ∈ gws, w ∈ Ts) (hM : gPi l y b n ty rm b0 As post) (hrec : ∃ cellB : Cell, H[b0]? = some cellB ∧ cellB.vm.isStatics = false ∧ s.vm.findClass y.cls = some cellB.cls)
    (h1 : Cond.methodLink own index y ∈ gws) (h2 : Cond.instanceMethod y ∈ gws) (h3 : Cond.selects y.cls y y ∈ gws) (h5 : Cond.initialized y.cls ∈ gws) (h4 : Cond.code y b n (some ty) ∈ gws)
    (hd : y.cls ≠ "java/lang/invoke/MethodHandle" ∧ y.cls ≠ "java/lang/invoke/VarHandle" ∧ (parseMethodDescriptor y.desc).map (fun d => d.parameters.length) = some As.length)
    (hR : rm.frames + 1 ≤ R.frames ∧ 8 + (n + 11) + rm.locals ≤ R.locals) (hsize : ls.size = nL) (hstack : st0 = As.reverse ++ .ref b0 :: rest) (hW : (rest.map fun v => v.category).sum ≤ 8) (hf : cells + rm.cells ≤ R.cells ∧ slots + rm.slots ≤ R.slots) (hdg : decode cc pc = .ok (.invokevirtual index, 3))
    (kk : ∀ r : Int32, post r → W p l e R s m args below meth c H locs cells slots Q (F0 m (pc + 3) ls (.int r :: rest))) :
    W p l e R s m args below meth c H locs cells slots Q (F0 m pc ls st0) := by
  intro T hT X
  obtain ⟨v, st₀, t', T', L, h0, X', hL, e1, e2, ⟨⟨r, u, hv, hp, hb⟩, hz, hk⟩, st⟩ := (va_runV (As := As) (rest := rest) (g := F0 m pc ls st0) S (hM H.size) (cwV As.length S.2.2.2.2 (gw_V hs h1 h2 h3 h5 h4) rfl rfl rfl ⟨rfl, hd⟩ hR) ⟨fun a U g mk q => q, hrec, fun U hU _ => ⟨rfl, congrArg Array.size hU⟩⟩ rfl rfl hsize hstack (lv_room hW) hdg hf) T hT X
  cases hv
  rw [h0] at hz hk
  have hh : T'.heap = H := g_heap (by rw [e1]; exact hb) (fun q hq => by rw [e1]; exact hk q hq (g_lt hq))
  obtain ⟨t2, a1, b1⟩ := kk r hp T' hh (g_back X X' (by rw [hh, hT]))
  exact ⟨t2, st t2 a1, b1⟩
theorem g_preM (hE : gE t A0 s s.heap) (hS : va_S A0 s.heap H locs) (hP : va_P D vwCl (wM m0 m1 m2 cJ cI u) H) (hK : va_K D vwCl [(cJ, .long), (cI, .int)] s) (hD : va_D A0 (wM m0 m1 m2 cJ cI u)) (hF : ∀ q, va_A (wM m0 m1 m2 cJ cI u) H.size q → A0 q) : PreV s H RX1 m0 (gMPre t D m0 m1 m2 cJ cI u H.size As) As :=
  ⟨gMPre_blind t D m0 m1 m2 cJ cI u H.size As, va_recv hK hP (ci := 1) (q0 := 0) rfl rfl, fun U hU hW => ⟨rfl, by rw [hU], by rw [hU]; exact ((hE.kept hS.2.1).narrow hF).warm hW, by rw [hU]; exact hP, va_K.moved hW.alike hK, hD.weaken (fun _ _ _ _ => trivial)⟩⟩
theorem g_callMl {post : Int64 → mS → Prop} (S : CallFix p m c cc nL s args Ts own) (hs : ∀ w ∈ gws, w ∈ Ts) (hM : gMl l y b n rm t D m0 m1 m2 cJ cI u As post) (hyc : y.cls = RX1)
    (h1 : Cond.methodLink own index y ∈ gws) (h2 : Cond.instanceMethod y ∈ gws) (h3 : Cond.selects RX1 y y ∈ gws) (h4 : Cond.code y b n (some .long) ∈ gws)
    (hd : y.cls ≠ "java/lang/invoke/MethodHandle" ∧ y.cls ≠ "java/lang/invoke/VarHandle" ∧ (parseMethodDescriptor y.desc).map (fun d => d.parameters.length) = some As.length)
    (hR : rm.frames + 1 ≤ R.frames ∧ 8 + (n + 11) + rm.locals ≤ R.locals) (hE : gE t A0 s s.heap) (hS : va_S A0 s.heap H locs) (hA : ∀ q, s.heap.size ≤ q → A0 q) (hP : va_P D vwCl (wM m0 m1 m2 cJ cI u) H) (hK : va_K D vwCl [(cJ, .long), (cI, .int)] s) (hD : va_D A0 (wM m0 m1 m2 cJ cI u)) (hsize : ls.size = nL)
    (hstack : st0 = As.reverse ++ .ref m0 :: rest) (hW : (rest.map fun v => v.category).sum ≤ 8) (hf : cells + rm.cells ≤ R.cells ∧ slots + rm.slots ≤ R.slots) (hdg : decode cc pc = .ok (.invokevirtual index, 3))
    (kk : ∀ (r : Int64) (u' : mS) (H1 : Heap) (locs1 : List Loc), post r u' → va_P D vwCl (wM m0 m1 m2 cJ cI u') H1 → va_D A0 (wM m0 m1 m2 cJ cI u') → va_S A0 s.heap H1 locs1 → W p l e R s m args below meth c H1 locs1 (cells + rm.cells) (slots + rm.slots) Q (F0 m (pc + 3) ls (.long r :: rest))) :
    W p l e R s m args below meth c H locs cells slots Q (F0 m pc ls st0) := by
  have hF := va_free (wc := wM m0 m1 m2 cJ cI u) hD hS hA [0, 1, 2] rfl
  exact va_calll (va_runV (As := As) (rest := rest) (g := F0 m pc ls st0) S (hM H.size) (cwV As.length S.2.2.2.2 (gw_V hs h1 h2 h3 in_X1 h4) rfl rfl rfl ⟨hyc, hd⟩ hR) (g_preM hE hS hP hK hD hF) rfl rfl hsize hstack (lv_room hW) hdg hf) hS (fun q _ h => hF q h) hF
    (fun r u' t' H1 locs1 ht _ hp hB _ _ hS1 => kk r u' H1 locs1 hp (by rw [← ht]; exact hB.1) (hB.2.2.weaken (fun _ q _ h => hF q.1 h)) hS1)
theorem g_callMi {post : Int32 → mS → Prop} (S : CallFix p m c cc nL s args Ts own) (hs : ∀ w ∈ gws, w ∈ Ts) (hM : gMi l y b n rm t D m0 m1 m2 cJ cI u As post) (hyc : y.cls = RX1)
    (h1 : Cond.methodLink own index y ∈ gws) (h2 : Cond.instanceMethod y ∈ gws) (h3 : Cond.selects RX1 y y ∈ gws) (h4 : Cond.code y b n (some .int) ∈ gws)
    (hd : y.cls ≠ "java/lang/invoke/MethodHandle" ∧ y.cls ≠ "java/lang/invoke/VarHandle" ∧ (parseMethodDescriptor y.desc).map (fun d => d.parameters.length) = some As.length)
    (hR : rm.frames + 1 ≤ R.frames ∧ 8 + (n + 11) + rm.locals ≤ R.locals) (hE : gE t A0 s s.heap) (hS : va_S A0 s.heap H locs) (hA : ∀ q, s.heap.size ≤ q → A0 q) (hP : va_P D vwCl (wM m0 m1 m2 cJ cI u) H) (hK : va_K D vwCl [(cJ, .long), (cI, .int)] s) (hD : va_D A0 (wM m0 m1 m2 cJ cI u)) (hsize : ls.size = nL)
    (hstack : st0 = As.reverse ++ .ref m0 :: rest) (hW : (rest.map fun v => v.category).sum ≤ 8) (hf : cells + rm.cells ≤ R.cells ∧ slots + rm.slots ≤ R.slots) (hdg : decode cc pc = .ok (.invokevirtual index, 3))
    (kk : ∀ (r : Int32) (u' : mS) (H1 : Heap) (locs1 : List Loc), post r u' → va_P D vwCl (wM m0 m1 m2 cJ cI u') H1 → va_D A0 (wM m0 m1 m2 cJ cI u') → va_S A0 s.heap H1 locs1 → W p l e R s m args below meth c H1 locs1 (cells + rm.cells) (slots + rm.slots) Q (F0 m (pc + 3) ls (.int r :: rest))) :
    W p l e R s m args below meth c H locs cells slots Q (F0 m pc ls st0) := by
  have hF := va_free (wc := wM m0 m1 m2 cJ cI u) hD hS hA [0, 1, 2] rfl
  exact va_calli (va_runV (As := As) (rest := rest) (g := F0 m pc ls st0) S (hM H.size) (cwV As.length S.2.2.2.2 (gw_V hs h1 h2 h3 in_X1 h4) rfl rfl rfl ⟨hyc, hd⟩ hR) (g_preM hE hS hP hK hD hF) rfl rfl hsize hstack (lv_room hW) hdg hf) hS (fun q _ h => hF q h) hF
    (fun r u' t' H1 locs1 ht _ hp hB _ _ hS1 => kk r u' H1 locs1 hp (by rw [← ht]; exact hB.1) (hB.2.2.weaken (fun _ q _ h => hF q.1 h)) hS1)
end GMC
end
section
def kout (r : Int32) : Int32 :=
  if r < (0 : Int32) then
    (1 : Int32)
  else if r ≤ (7 : Int32) then
    (0 : Int32)
  else (1 : Int32)
set_option maxHeartbeats 4000000 in
set_option maxRecDepth 100000 in
theorem tX1_out (l : Launch) (b0 : Nat) (r : Int32) : gPi l yX1_out cX1_out 2 .boolean { frames := 0, cells := 0, slots := 0, locals := 0 } b0 [.int r] (fun z9 => z9 = kout r) := by
  refine g_openPi (by decide +kernel) (Nat.le_of_ble_eq_true rfl) ?_
  intro p e s m below meth c ls S hr hlocks hl
  obtain ⟨hx, hb, hml, hown, hts⟩ := id S
  have hs : ∀ w ∈ gws, w ∈ Cond.code yX1_out cX1_out 2 (some .boolean) :: gws := fun w h => List.mem_cons_of_mem _ h
  have hl : lv_has ls 2 [(0, .ref b0), (1, .int r)] := hl
  refine lv_iload_n hx hb dX1_out_0 rfl (lv_at hl 1 rfl) ?_
  refine lv_if_lt (tgt := 10) hx hb dX1_out_1 (by decide) (fun c_1 => ?_) (fun c_1 => ?_)
  · refine lv_iconst (v := 1) hx hb dX1_out_10 (by decide) ?_
    refine lv_goto (tgt := 15) hx hb dX1_out_11 (by decide) ?_
    exact g_zret hx hb hr (by decide) hlocks (by rw [kout, if_pos c_1]) dX1_out_15
  · refine lv_iload_n hx hb dX1_out_4 rfl (lv_at hl 1 rfl) ?_
    refine lv_bipush (v := 7) hx hb dX1_out_5 (by decide) ?_
    refine lv_icmp_le (tgt := 14) hx hb dX1_out_7 (by decide) (fun c_2 => ?_) (fun c_2 => ?_)
    · refine lv_iconst (v := 0) hx hb dX1_out_14 (by decide) ?_
      exact g_zret hx hb hr (by decide) hlocks (by rw [kout, if_neg c_1, if_pos c_2]) dX1_out_15
    · refine lv_iconst (v := 1) hx hb dX1_out_10 (by decide) ?_
      refine lv_goto (tgt := 15) hx hb dX1_out_11 (by decide) ?_
      exact g_zret hx hb hr (by decide) hlocks (by rw [kout, if_neg c_1, if_neg c_2]) dX1_out_15
theorem g_pos_ne {x : Int64} (h : ¬ x ≤ (0 : Int64)) : ¬ x = 0 := fun e => h (by rw [e]; decide)
def kproduct (x : Int64) (y : Int64) : Int64 :=
  if (x / (10000 : Int64)) ≤ (0 : Int64) then
    ((x / (10000 : Int64)) * y) + ((((x - x / (10000 : Int64) * (10000 : Int64)) * y) + (5000 : Int64)) / (10000 : Int64))
  else if y ≤ ((900000000000000 : Int64) / (x / (10000 : Int64))) then
    ((x / (10000 : Int64)) * y) + ((((x - x / (10000 : Int64) * (10000 : Int64)) * y) + (5000 : Int64)) / (10000 : Int64))
  else (900000000000001 : Int64)
set_option maxHeartbeats 4000000 in
set_option maxRecDepth 100000 in
theorem tX1_product (l : Launch) (b0 : Nat) (x : Int64) (y : Int64) : gPl l yX1_product cX1_product 7 { frames := 0, cells := 0, slots := 0, locals := 0 } b0 [.long x, .long y] (fun z9 => z9 = kproduct x y) := by
  refine g_openPl (by decide +kernel) (Nat.le_of_ble_eq_true rfl) ?_
  intro p e s m below meth c ls S hr hlocks hl
  obtain ⟨hx, hb, hml, hown, hts⟩ := id S
  have hs : ∀ w ∈ gws, w ∈ Cond.code yX1_product cX1_product 7 (some .long) :: gws := fun w h => List.mem_cons_of_mem _ h
  have hl : lv_has ls 7 [(0, .ref b0), (1, .long x), (3, .long y)] := hl
  refine lv_lload_n hx hb dX1_product_0 rfl (lv_at hl 1 rfl) ?_
  refine lv_ldc2 hx hb hown (hts _ (hs _ kl_X1_33)) dX1_product_1 ?_
  refine lv_ldiv hx hb dX1_product_4 (by decide) ?_
  refine lv_lstore (lv' := [(5, .long (x / (10000 : Int64))), (0, .ref b0), (1, .long x), (3, .long y)]) hx hb dX1_product_5 hl (by decide) rfl (fun ls hl => ?_)
  refine lv_lload hx hb dX1_product_7 (lv_at hl 0 rfl) ?_
  refine lv_lconst (v := 0) hx hb dX1_product_9 (by decide) ?_
  refine g_lc_le (tgt := 29) hx hb dX1_product_10 dX1_product_11 (by decide) (fun c_1 => ?_) (fun c_1 => ?_)
  · refine lv_lload hx hb dX1_product_29 (lv_at hl 0 rfl) ?_
    refine lv_lload_n hx hb dX1_product_31 rfl (lv_at hl 3 rfl) ?_
    refine lv_lmul hx hb dX1_product_32 ?_
    refine lv_lload_n hx hb dX1_product_33 rfl (lv_at hl 2 rfl) ?_
    refine lv_ldc2 hx hb hown (hts _ (hs _ kl_X1_33)) dX1_product_34 ?_
    refine lv_lrem hx hb dX1_product_37 (by decide) ?_
    refine lv_lload_n hx hb dX1_product_38 rfl (lv_at hl 3 rfl) ?_
    refine lv_lmul hx hb dX1_product_39 ?_
    refine lv_ldc2 hx hb hown (hts _ (hs _ kl_X1_37)) dX1_product_40 ?_
    refine lv_ladd hx hb dX1_product_43 ?_
    refine lv_ldc2 hx hb hown (hts _ (hs _ kl_X1_33)) dX1_product_44 ?_
    refine lv_ldiv hx hb dX1_product_47 (by decide) ?_
    refine lv_ladd hx hb dX1_product_48 ?_
    exact g_lret hx hb hr hlocks (by rw [kproduct, if_pos c_1]) dX1_product_49
  · refine lv_lload_n hx hb dX1_product_14 rfl (lv_at hl 3 rfl) ?_
    refine lv_ldc2 hx hb hown (hts _ (hs _ kl_X1_27)) dX1_product_15 ?_
    refine lv_lload hx hb dX1_product_18 (lv_at hl 0 rfl) ?_
    refine lv_ldiv hx hb dX1_product_20 (g_pos_ne c_1) ?_
    refine g_lc_le (tgt := 29) hx hb dX1_product_21 dX1_product_22 (by decide) (fun c_2 => ?_) (fun c_2 => ?_)
    · refine lv_lload hx hb dX1_product_29 (lv_at hl 0 rfl) ?_
      refine lv_lload_n hx hb dX1_product_31 rfl (lv_at hl 3 rfl) ?_
      refine lv_lmul hx hb dX1_product_32 ?_
      refine lv_lload_n hx hb dX1_product_33 rfl (lv_at hl 2 rfl) ?_
      refine lv_ldc2 hx hb hown (hts _ (hs _ kl_X1_33)) dX1_product_34 ?_
      refine lv_lrem hx hb dX1_product_37 (by decide) ?_
      refine lv_lload_n hx hb dX1_product_38 rfl (lv_at hl 3 rfl) ?_
      refine lv_lmul hx hb dX1_product_39 ?_
      refine lv_ldc2 hx hb hown (hts _ (hs _ kl_X1_37)) dX1_product_40 ?_
      refine lv_ladd hx hb dX1_product_43 ?_
      refine lv_ldc2 hx hb hown (hts _ (hs _ kl_X1_33)) dX1_product_44 ?_
      refine lv_ldiv hx hb dX1_product_47 (by decide) ?_
      refine lv_ladd hx hb dX1_product_48 ?_
      exact g_lret hx hb hr hlocks (by rw [kproduct, if_neg c_1, if_pos c_2]) dX1_product_49
    · refine lv_ldc2 hx hb hown (hts _ (hs _ kl_X1_35)) dX1_product_25 ?_
      exact g_lret hx hb hr hlocks (by rw [kproduct, if_neg c_1, if_neg c_2]) dX1_product_28
def kquotient (x : Int64) (y : Int64) : Int64 :=
  if (((10000 : Int64) * x) - ((10000 : Int64) * x) / y * y) < (y - (((10000 : Int64) * x) - ((10000 : Int64) * x) / y * y)) then
    ((10000 : Int64) * x) / y
  else (((10000 : Int64) * x) / y) + (1 : Int64)
set_option maxHeartbeats 4000000 in
set_option maxRecDepth 100000 in
theorem tX1_quotient (l : Launch) (b0 : Nat) (x : Int64) (y : Int64) (hy : ¬ y = 0) : gPl l yX1_quotient cX1_quotient 9 { frames := 0, cells := 0, slots := 0, locals := 0 } b0 [.long x, .long y] (fun z9 => z9 = kquotient x y) := by
  refine g_openPl (by decide +kernel) (Nat.le_of_ble_eq_true rfl) ?_
  intro p e s m below meth c ls S hr hlocks hl
  obtain ⟨hx, hb, hml, hown, hts⟩ := id S
  have hs : ∀ w ∈ gws, w ∈ Cond.code yX1_quotient cX1_quotient 9 (some .long) :: gws := fun w h => List.mem_cons_of_mem _ h
  have hl : lv_has ls 9 [(0, .ref b0), (1, .long x), (3, .long y)] := hl
  refine lv_ldc2 hx hb hown (hts _ (hs _ kl_X1_33)) dX1_quotient_0 ?_
  refine lv_lload_n hx hb dX1_quotient_3 rfl (lv_at hl 1 rfl) ?_
  refine lv_lmul hx hb dX1_quotient_4 ?_
  refine lv_lload_n hx hb dX1_quotient_5 rfl (lv_at hl 2 rfl) ?_
  refine lv_ldiv hx hb dX1_quotient_6 (hy) ?_
  refine lv_lstore (lv' := [(5, .long (((10000 : Int64) * x) / y)), (0, .ref b0), (1, .long x), (3, .long y)]) hx hb dX1_quotient_7 hl (by decide) rfl (fun ls hl => ?_)
  refine lv_ldc2 hx hb hown (hts _ (hs _ kl_X1_33)) dX1_quotient_9 ?_
  refine lv_lload_n hx hb dX1_quotient_12 rfl (lv_at hl 2 rfl) ?_
  refine lv_lmul hx hb dX1_quotient_13 ?_
  refine lv_lload_n hx hb dX1_quotient_14 rfl (lv_at hl 3 rfl) ?_
  refine lv_lrem hx hb dX1_quotient_15 (hy) ?_
  refine lv_lstore (lv' := [(7, .long (((10000 : Int64) * x) - ((10000 : Int64) * x) / y * y)), (5, .long (((10000 : Int64) * x) / y)), (0, .ref b0), (1, .long x), (3, .long y)]) hx hb dX1_quotient_16 hl (by decide) rfl (fun ls hl => ?_)
  refine lv_lload hx hb dX1_quotient_18 (lv_at hl 0 rfl) ?_
  refine lv_lload_n hx hb dX1_quotient_20 rfl (lv_at hl 4 rfl) ?_
  refine lv_lload hx hb dX1_quotient_21 (lv_at hl 0 rfl) ?_
  refine lv_lsub hx hb dX1_quotient_23 ?_
  refine g_lc_lt (tgt := 35) hx hb dX1_quotient_24 dX1_quotient_25 (by decide) (fun c_1 => ?_) (fun c_1 => ?_)
  · refine lv_lload hx hb dX1_quotient_35 (lv_at hl 1 rfl) ?_
    exact g_lret hx hb hr hlocks (by rw [kquotient, if_pos c_1]) dX1_quotient_37
  · refine lv_lload hx hb dX1_quotient_28 (lv_at hl 1 rfl) ?_
    refine lv_lconst (v := 1) hx hb dX1_quotient_30 (by decide) ?_
    refine lv_ladd hx hb dX1_quotient_31 ?_
    refine lv_goto (tgt := 37) hx hb dX1_quotient_32 (by decide) ?_
    exact g_lret hx hb hr hlocks (by rw [kquotient, if_neg c_1]) dX1_quotient_37
theorem out_in {r : Int32} (h : kout r = 0) : vp_in r 8 := by
  unfold kout at h
  split at h
  · exact absurd h (by decide)
  · split at h
    next h1 h2 =>
      obtain ⟨j, hj, rfl⟩ := nI_of2 (M := 7) (n := 7) rfl h1 h2
      exact vp_in_nI (by omega) (by decide)
    · exact absurd h (by decide)
theorem ksize_ne {x : Int64} (h : ¬ x = 0) : ¬ jX1_size x = 0 := by
  unfold jX1_size
  split
  · exact h
  · intro q
    apply h
    have e : x = -(-x) := by simp
    rw [e, q]
    rfl
def kthrown (u : mS)  : Int32 × mS :=
  (u.1, u)
set_option maxHeartbeats 4000000 in
set_option maxRecDepth 100000 in
theorem tX1_thrown (l : Launch) (t : Nat) (D : va_G) (m0 m1 m2 : Nat) (cJ cI : ClassId) (u : mS)  : gMi l yX1_thrown cX1_thrown 1 { frames := 0, cells := 0, slots := 0, locals := 0 } t D m0 m1 m2 cJ cI u [] (fun z9 u9 => z9 = (kthrown u).1 ∧ u9 = (kthrown u).2) := by
  refine g_openMi (by decide +kernel) (Nat.le_of_ble_eq_true rfl) ?_
  intro p e s m below meth c ls A hA S hr hlocks hE hP hK hD hl
  obtain ⟨hx, hb, hml, hown, hts⟩ := id S
  have hs : ∀ w ∈ gws, w ∈ Cond.code yX1_thrown cX1_thrown 1 (some .int) :: gws := fun w h => List.mem_cons_of_mem _ h
  have hS : va_S A s.heap s.heap [] := va_S.rf
  have hl : lv_has ls 1 [(0, .ref m0)] := hl
  refine lv_aload_n hx hb dX1_thrown_0 rfl (lv_at hl 0 rfl) ?_
  refine va_get (ci := 1) (v := .int u.1) (C := RX1) (T := TX1) (N := 3) hx hb hts (fun w h => hs _ (inX1g w h)) hown hK hP 0 rfl rfl 0 (by decide) (hts _ (hs _ fl_X1_17)) (fun _ h9 => h9) rfl dX1_thrown_1 ?_
  exact W.iret (v := u.1) hx hb hr (fun t9 ht9 hW9 => ⟨⟨u.1, u, rfl, (⟨by rw [kthrown], by rw [kthrown]⟩), by rw [ht9]; exact hP, va_K.moved hW9.alike hK, hD⟩, hS.F ht9⟩) hS.2.2 dX1_thrown_4 hlocks
def kfail (u : mS) (code : Int32) : Int32 × mS :=
  ((0 : Int32), (code, u.2.1, u.2.2))
set_option maxHeartbeats 4000000 in
set_option maxRecDepth 100000 in
theorem tX1_fail (l : Launch) (t : Nat) (D : va_G) (m0 m1 m2 : Nat) (cJ cI : ClassId) (u : mS) (code : Int32) : gMi l yX1_fail cX1_fail 2 { frames := 0, cells := 0, slots := 0, locals := 0 } t D m0 m1 m2 cJ cI u [.int code] (fun z9 u9 => z9 = (kfail u code).1 ∧ u9 = (kfail u code).2) := by
  refine g_openMi (by decide +kernel) (Nat.le_of_ble_eq_true rfl) ?_
  intro p e s m below meth c ls A hA S hr hlocks hE hP hK hD hl
  obtain ⟨hx, hb, hml, hown, hts⟩ := id S
  have hs : ∀ w ∈ gws, w ∈ Cond.code yX1_fail cX1_fail 2 (some .int) :: gws := fun w h => List.mem_cons_of_mem _ h
  have hS : va_S A s.heap s.heap [] := va_S.rf
  have hl : lv_has ls 2 [(0, .ref m0), (1, .int code)] := hl
  refine lv_aload_n hx hb dX1_fail_0 rfl (lv_at hl 0 rfl) ?_
  refine lv_iload_n hx hb dX1_fail_1 rfl (lv_at hl 1 rfl) ?_
  refine va_put (ci := 1) (v := .int code) (ty := .int) (C := RX1) (T := TX1) (N := 3) hx hb hts (fun w h => hs _ (inX1g w h)) tyX1 tyX1_ok nmX1 hown hK hP hD hS 0 rfl rfl 0 (by decide) (hts _ (hs _ fl_X1_17)) (fun _ h9 => h9) rfl (by decide +kernel) rfl rfl (Nat.le_of_ble_eq_true rfl) dX1_fail_2 (fun H locs hP hD hS => ?_)
  have hP : va_P D vwCl (wM m0 m1 m2 cJ cI (code, u.2.1, u.2.2)) H := hP
  have hD : va_D A (wM m0 m1 m2 cJ cI (code, u.2.1, u.2.2)) := hD
  refine lv_iconst (v := 0) hx hb dX1_fail_5 (by decide) ?_
  exact W.iret (v := (0 : Int32)) hx hb hr (fun t9 ht9 hW9 => ⟨⟨(0 : Int32), (code, u.2.1, u.2.2), rfl, (⟨by rw [kfail], by rw [kfail]⟩), by rw [ht9]; exact hP, va_K.moved hW9.alike hK, hD⟩, hS.F ht9⟩) hS.2.2 dX1_fail_6 hlocks
def kput (u : mS) (r : Int32) (mi : Int32) (v : Int64) (code : Int32) : Int64 × mS :=
  if v ≤ (900000000000000 : Int64) then
    if mi = (0 : Int32) then
      ((vp_updL u.2.1 r.toNatClampNeg v) r.toNatClampNeg, (u.1, (vp_updL u.2.1 r.toNatClampNeg v), u.2.2))
    else ((vp_updL u.2.1 r.toNatClampNeg (-v)) r.toNatClampNeg, (u.1, (vp_updL u.2.1 r.toNatClampNeg (-v)), u.2.2))
  else (((kfail u code).1).toInt64, (kfail u code).2)
set_option maxHeartbeats 4000000 in
set_option maxRecDepth 100000 in
theorem tX1_put (l : Launch) (t : Nat) (D : va_G) (m0 m1 m2 : Nat) (cJ cI : ClassId) (u : mS) (r : Int32) (mi : Int32) (v : Int64) (code : Int32) (hr8 : vp_in r 8) : gMl l yX1_put cX1_put 6 { frames := 1, cells := 0, slots := 0, locals := 30 } t D m0 m1 m2 cJ cI u [.int r, .int mi, .long v, .int code] (fun z9 u9 => z9 = (kput u r mi v code).1 ∧ u9 = (kput u r mi v code).2) := by
  refine g_openMl (by decide +kernel) (Nat.le_of_ble_eq_true rfl) ?_
  intro p e s m below meth c ls A hA S hr hlocks hE hP hK hD hl
  obtain ⟨hx, hb, hml, hown, hts⟩ := id S
  have hs : ∀ w ∈ gws, w ∈ Cond.code yX1_put cX1_put 6 (some .long) :: gws := fun w h => List.mem_cons_of_mem _ h
  have hS : va_S A s.heap s.heap [] := va_S.rf
  have hl : lv_has ls 6 [(0, .ref m0), (1, .int r), (2, .int mi), (3, .long v), (5, .int code)] := hl
  refine lv_lload_n hx hb dX1_put_0 rfl (lv_at hl 3 rfl) ?_
  refine lv_ldc2 hx hb hown (hts _ (hs _ kl_X1_27)) dX1_put_1 ?_
  refine g_lc_le (tgt := 16) hx hb dX1_put_4 dX1_put_5 (by decide) (fun c_1 => ?_) (fun c_1 => ?_)
  · refine lv_aload_n hx hb dX1_put_16 rfl (lv_at hl 0 rfl) ?_
    refine va_get (ci := 1) (v := .ref m1) (C := RX1) (T := TX1) (N := 3) hx hb hts (fun w h => hs _ (inX1g w h)) hown hK hP 0 rfl rfl 1 (by decide) (hts _ (hs _ fl_X1_7)) (fun _ h9 => h9) rfl dX1_put_17 ?_
    refine lv_iload_n hx hb dX1_put_20 rfl (lv_at hl 1 rfl) ?_
    refine lv_iload_n hx hb dX1_put_21 rfl (lv_at hl 2 rfl) ?_
    refine lv_if_eq (tgt := 30) hx hb dX1_put_22 (by decide) (fun c_2 => ?_) (fun c_2 => ?_)
    · refine lv_lload_n hx hb dX1_put_30 rfl (lv_at hl 3 rfl) ?_
      refine va_last hx hb hK hP hD hS 1 0 rfl rfl (hr8) dX1_put_31 (fun H locs hP hD hS => ?_)
      have hP : va_P D vwCl (wM m0 m1 m2 cJ cI (u.1, (vp_updL u.2.1 r.toNatClampNeg v), u.2.2)) H := hP
      have hD : va_D A (wM m0 m1 m2 cJ cI (u.1, (vp_updL u.2.1 r.toNatClampNeg v), u.2.2)) := hD
      refine lv_aload_n hx hb dX1_put_32 rfl (lv_at hl 0 rfl) ?_
      refine va_get (ci := 1) (v := .ref m1) (C := RX1) (T := TX1) (N := 3) hx hb hts (fun w h => hs _ (inX1g w h)) hown hK hP 0 rfl rfl 1 (by decide) (hts _ (hs _ fl_X1_7)) (fun _ h9 => h9) rfl dX1_put_33 ?_
      refine lv_iload_n hx hb dX1_put_36 rfl (lv_at hl 1 rfl) ?_
      refine va_lald hx hb hK hP 1 0 rfl rfl (hr8) dX1_put_37 ?_
      exact W.lret (v := (vp_updL u.2.1 r.toNatClampNeg v) r.toNatClampNeg) hx hb hr (fun t9 ht9 hW9 => ⟨⟨(vp_updL u.2.1 r.toNatClampNeg v) r.toNatClampNeg, (u.1, (vp_updL u.2.1 r.toNatClampNeg v), u.2.2), rfl, (⟨by rw [kput, if_pos c_1, if_pos c_2], by rw [kput, if_pos c_1, if_pos c_2]⟩), by rw [ht9]; exact hP, va_K.moved hW9.alike hK, hD⟩, hS.F ht9⟩) hS.2.2 dX1_put_38 hlocks
    · refine lv_lload_n hx hb dX1_put_25 rfl (lv_at hl 3 rfl) ?_
      refine lv_lneg hx hb dX1_put_26 ?_
      refine lv_goto (tgt := 31) hx hb dX1_put_27 (by decide) ?_
      refine va_last hx hb hK hP hD hS 1 0 rfl rfl (hr8) dX1_put_31 (fun H locs hP hD hS => ?_)
      have hP : va_P D vwCl (wM m0 m1 m2 cJ cI (u.1, (vp_updL u.2.1 r.toNatClampNeg (-v)), u.2.2)) H := hP
      have hD : va_D A (wM m0 m1 m2 cJ cI (u.1, (vp_updL u.2.1 r.toNatClampNeg (-v)), u.2.2)) := hD
      refine lv_aload_n hx hb dX1_put_32 rfl (lv_at hl 0 rfl) ?_
      refine va_get (ci := 1) (v := .ref m1) (C := RX1) (T := TX1) (N := 3) hx hb hts (fun w h => hs _ (inX1g w h)) hown hK hP 0 rfl rfl 1 (by decide) (hts _ (hs _ fl_X1_7)) (fun _ h9 => h9) rfl dX1_put_33 ?_
      refine lv_iload_n hx hb dX1_put_36 rfl (lv_at hl 1 rfl) ?_
      refine va_lald hx hb hK hP 1 0 rfl rfl (hr8) dX1_put_37 ?_
      exact W.lret (v := (vp_updL u.2.1 r.toNatClampNeg (-v)) r.toNatClampNeg) hx hb hr (fun t9 ht9 hW9 => ⟨⟨(vp_updL u.2.1 r.toNatClampNeg (-v)) r.toNatClampNeg, (u.1, (vp_updL u.2.1 r.toNatClampNeg (-v)), u.2.2), rfl, (⟨by rw [kput, if_pos c_1, if_neg c_2], by rw [kput, if_pos c_1, if_neg c_2]⟩), by rw [ht9]; exact hP, va_K.moved hW9.alike hK, hD⟩, hS.F ht9⟩) hS.2.2 dX1_put_38 hlocks
  · refine lv_aload_n hx hb dX1_put_8 rfl (lv_at hl 0 rfl) ?_
    refine lv_iload hx hb dX1_put_9 (lv_at hl 4 rfl) ?_
    refine g_callMi S hs (tX1_fail l t D m0 m1 m2 cJ cI u code) rfl ml_X1_29 im_yX1_fail se_yX1_fail cd_yX1_fail hd_yX1_fail ⟨by decide, by decide⟩ hE hS hA hP hK hD hl.1 rfl (Nat.le_of_ble_eq_true rfl) ⟨by decide, by decide⟩ dX1_put_11 (fun r_3 u_3 H locs hr_3 hP hD hS => ?_)
    obtain ⟨rfl, rfl⟩ := hr_3
    refine lv_i2l hx hb dX1_put_14 rfl ?_
    exact W.lret (v := ((kfail u code).1).toInt64) hx hb hr (fun t9 ht9 hW9 => ⟨⟨((kfail u code).1).toInt64, (kfail u code).2, rfl, (⟨by rw [kput, if_neg c_1], by rw [kput, if_neg c_1]⟩), by rw [ht9]; exact hP, va_K.moved hW9.alike hK, hD⟩, hS.F ht9⟩) hS.2.2 dX1_put_15 hlocks
def kset (u : mS) (r : Int32) (n : Int64) : Int64 × mS :=
  if (kout r) = (0 : Int32) then
    if n < (-900000000000000 : Int64) then
      (((kfail ((0 : Int32), u.2.1, u.2.2) (1 : Int32)).1).toInt64, (kfail ((0 : Int32), u.2.1, u.2.2) (1 : Int32)).2)
    else if n ≤ (900000000000000 : Int64) then
      (u.2.1 r.toNatClampNeg, ((0 : Int32), (vp_updL u.2.1 r.toNatClampNeg n), u.2.2))
    else (((kfail ((0 : Int32), u.2.1, u.2.2) (1 : Int32)).1).toInt64, (kfail ((0 : Int32), u.2.1, u.2.2) (1 : Int32)).2)
  else (((kfail ((0 : Int32), u.2.1, u.2.2) (1 : Int32)).1).toInt64, (kfail ((0 : Int32), u.2.1, u.2.2) (1 : Int32)).2)
set_option maxHeartbeats 4000000 in
set_option maxRecDepth 100000 in
theorem tX1_set (l : Launch) (t : Nat) (D : va_G) (m0 m1 m2 : Nat) (cJ cI : ClassId) (u : mS) (r : Int32) (n : Int64) : gMl l yX1_set cX1_set 6 { frames := 2, cells := 0, slots := 0, locals := 60 } t D m0 m1 m2 cJ cI u [.int r, .long n] (fun z9 u9 => z9 = (kset u r n).1 ∧ u9 = (kset u r n).2) := by
  refine g_openMl (by decide +kernel) (Nat.le_of_ble_eq_true rfl) ?_
  intro p e s m below meth c ls A hA S hr hlocks hE hP hK hD hl
  obtain ⟨hx, hb, hml, hown, hts⟩ := id S
  have hs : ∀ w ∈ gws, w ∈ Cond.code yX1_set cX1_set 6 (some .long) :: gws := fun w h => List.mem_cons_of_mem _ h
  have hS : va_S A s.heap s.heap [] := va_S.rf
  have hl : lv_has ls 6 [(0, .ref m0), (1, .int r), (2, .long n)] := hl
  refine lv_aload_n hx hb dX1_set_0 rfl (lv_at hl 0 rfl) ?_
  refine lv_iconst (v := 0) hx hb dX1_set_1 (by decide) ?_
  refine va_put (ci := 1) (v := .int (0 : Int32)) (ty := .int) (C := RX1) (T := TX1) (N := 3) hx hb hts (fun w h => hs _ (inX1g w h)) tyX1 tyX1_ok nmX1 hown hK hP hD hS 0 rfl rfl 0 (by decide) (hts _ (hs _ fl_X1_17)) (fun _ h9 => h9) rfl (by decide +kernel) rfl rfl (Nat.le_of_ble_eq_true rfl) dX1_set_2 (fun H locs hP hD hS => ?_)
  have hP : va_P D vwCl (wM m0 m1 m2 cJ cI ((0 : Int32), u.2.1, u.2.2)) H := hP
  have hD : va_D A (wM m0 m1 m2 cJ cI ((0 : Int32), u.2.1, u.2.2)) := hD
  refine lv_aload_n hx hb dX1_set_5 rfl (lv_at hl 0 rfl) ?_
  refine lv_iload_n hx hb dX1_set_6 rfl (lv_at hl 1 rfl) ?_
  refine g_callPi S hs (tX1_out l m0 r) (va_recv hK hP (ci := 1) (q0 := 0) rfl rfl) ml_X1_21 im_yX1_out se_yX1_out in_X1 cd_yX1_out hd_yX1_out ⟨by decide, by decide⟩ hl.1 rfl (Nat.le_of_ble_eq_true rfl) ⟨by decide, by decide⟩ dX1_set_7 (fun r_1 hr_1 => ?_)
  subst hr_1
  refine lv_if_ne (tgt := 29) hx hb dX1_set_10 (by decide) (fun c_2 => ?_) (fun c_2 => ?_)
  · refine lv_aload_n hx hb dX1_set_29 rfl (lv_at hl 0 rfl) ?_
    refine lv_iconst (v := 1) hx hb dX1_set_30 (by decide) ?_
    refine g_callMi S hs (tX1_fail l t D m0 m1 m2 cJ cI ((0 : Int32), u.2.1, u.2.2) (1 : Int32)) rfl ml_X1_29 im_yX1_fail se_yX1_fail cd_yX1_fail hd_yX1_fail ⟨by decide, by decide⟩ hE hS hA hP hK hD hl.1 rfl (Nat.le_of_ble_eq_true rfl) ⟨by decide, by decide⟩ dX1_set_31 (fun r_3 u_3 H locs hr_3 hP hD hS => ?_)
    obtain ⟨rfl, rfl⟩ := hr_3
    refine lv_i2l hx hb dX1_set_34 rfl ?_
    exact W.lret (v := ((kfail ((0 : Int32), u.2.1, u.2.2) (1 : Int32)).1).toInt64) hx hb hr (fun t9 ht9 hW9 => ⟨⟨((kfail ((0 : Int32), u.2.1, u.2.2) (1 : Int32)).1).toInt64, (kfail ((0 : Int32), u.2.1, u.2.2) (1 : Int32)).2, rfl, (⟨by rw [kset, if_neg c_2], by rw [kset, if_neg c_2]⟩), by rw [ht9]; exact hP, va_K.moved hW9.alike hK, hD⟩, hS.F ht9⟩) hS.2.2 dX1_set_35 hlocks
  · refine lv_lload_n hx hb dX1_set_13 rfl (lv_at hl 2 rfl) ?_
    refine lv_ldc2 hx hb hown (hts _ (hs _ kl_X1_25)) dX1_set_14 ?_
    refine g_lc_lt (tgt := 29) hx hb dX1_set_17 dX1_set_18 (by decide) (fun c_4 => ?_) (fun c_4 => ?_)
    · refine lv_aload_n hx hb dX1_set_29 rfl (lv_at hl 0 rfl) ?_
      refine lv_iconst (v := 1) hx hb dX1_set_30 (by decide) ?_
      refine g_callMi S hs (tX1_fail l t D m0 m1 m2 cJ cI ((0 : Int32), u.2.1, u.2.2) (1 : Int32)) rfl ml_X1_29 im_yX1_fail se_yX1_fail cd_yX1_fail hd_yX1_fail ⟨by decide, by decide⟩ hE hS hA hP hK hD hl.1 rfl (Nat.le_of_ble_eq_true rfl) ⟨by decide, by decide⟩ dX1_set_31 (fun r_5 u_5 H locs hr_5 hP hD hS => ?_)
      obtain ⟨rfl, rfl⟩ := hr_5
      refine lv_i2l hx hb dX1_set_34 rfl ?_
      exact W.lret (v := ((kfail ((0 : Int32), u.2.1, u.2.2) (1 : Int32)).1).toInt64) hx hb hr (fun t9 ht9 hW9 => ⟨⟨((kfail ((0 : Int32), u.2.1, u.2.2) (1 : Int32)).1).toInt64, (kfail ((0 : Int32), u.2.1, u.2.2) (1 : Int32)).2, rfl, (⟨by rw [kset, if_pos c_2, if_pos c_4], by rw [kset, if_pos c_2, if_pos c_4]⟩), by rw [ht9]; exact hP, va_K.moved hW9.alike hK, hD⟩, hS.F ht9⟩) hS.2.2 dX1_set_35 hlocks
    · refine lv_lload_n hx hb dX1_set_21 rfl (lv_at hl 2 rfl) ?_
      refine lv_ldc2 hx hb hown (hts _ (hs _ kl_X1_27)) dX1_set_22 ?_
      refine g_lc_le (tgt := 36) hx hb dX1_set_25 dX1_set_26 (by decide) (fun c_6 => ?_) (fun c_6 => ?_)
      · refine lv_aload_n hx hb dX1_set_36 rfl (lv_at hl 0 rfl) ?_
        refine va_get (ci := 1) (v := .ref m1) (C := RX1) (T := TX1) (N := 3) hx hb hts (fun w h => hs _ (inX1g w h)) hown hK hP 0 rfl rfl 1 (by decide) (hts _ (hs _ fl_X1_7)) (fun _ h9 => h9) rfl dX1_set_37 ?_
        refine lv_iload_n hx hb dX1_set_40 rfl (lv_at hl 1 rfl) ?_
        refine va_lald hx hb hK hP 1 0 rfl rfl (out_in c_2) dX1_set_41 ?_
        refine lv_lstore (lv' := [(4, .long (u.2.1 r.toNatClampNeg)), (0, .ref m0), (1, .int r), (2, .long n)]) hx hb dX1_set_42 hl (by decide) rfl (fun ls hl => ?_)
        refine lv_aload_n hx hb dX1_set_44 rfl (lv_at hl 1 rfl) ?_
        refine va_get (ci := 1) (v := .ref m1) (C := RX1) (T := TX1) (N := 3) hx hb hts (fun w h => hs _ (inX1g w h)) hown hK hP 0 rfl rfl 1 (by decide) (hts _ (hs _ fl_X1_7)) (fun _ h9 => h9) rfl dX1_set_45 ?_
        refine lv_iload_n hx hb dX1_set_48 rfl (lv_at hl 2 rfl) ?_
        refine lv_lload_n hx hb dX1_set_49 rfl (lv_at hl 3 rfl) ?_
        refine va_last hx hb hK hP hD hS 1 0 rfl rfl (out_in c_2) dX1_set_50 (fun H locs hP hD hS => ?_)
        have hP : va_P D vwCl (wM m0 m1 m2 cJ cI ((0 : Int32), (vp_updL u.2.1 r.toNatClampNeg n), u.2.2)) H := hP
        have hD : va_D A (wM m0 m1 m2 cJ cI ((0 : Int32), (vp_updL u.2.1 r.toNatClampNeg n), u.2.2)) := hD
        refine lv_lload hx hb dX1_set_51 (lv_at hl 0 rfl) ?_
        exact W.lret (v := u.2.1 r.toNatClampNeg) hx hb hr (fun t9 ht9 hW9 => ⟨⟨u.2.1 r.toNatClampNeg, ((0 : Int32), (vp_updL u.2.1 r.toNatClampNeg n), u.2.2), rfl, (⟨by rw [kset, if_pos c_2, if_neg c_4, if_pos c_6], by rw [kset, if_pos c_2, if_neg c_4, if_pos c_6]⟩), by rw [ht9]; exact hP, va_K.moved hW9.alike hK, hD⟩, hS.F ht9⟩) hS.2.2 dX1_set_53 hlocks
      · refine lv_aload_n hx hb dX1_set_29 rfl (lv_at hl 0 rfl) ?_
        refine lv_iconst (v := 1) hx hb dX1_set_30 (by decide) ?_
        refine g_callMi S hs (tX1_fail l t D m0 m1 m2 cJ cI ((0 : Int32), u.2.1, u.2.2) (1 : Int32)) rfl ml_X1_29 im_yX1_fail se_yX1_fail cd_yX1_fail hd_yX1_fail ⟨by decide, by decide⟩ hE hS hA hP hK hD hl.1 rfl (Nat.le_of_ble_eq_true rfl) ⟨by decide, by decide⟩ dX1_set_31 (fun r_7 u_7 H locs hr_7 hP hD hS => ?_)
        obtain ⟨rfl, rfl⟩ := hr_7
        refine lv_i2l hx hb dX1_set_34 rfl ?_
        exact W.lret (v := ((kfail ((0 : Int32), u.2.1, u.2.2) (1 : Int32)).1).toInt64) hx hb hr (fun t9 ht9 hW9 => ⟨⟨((kfail ((0 : Int32), u.2.1, u.2.2) (1 : Int32)).1).toInt64, (kfail ((0 : Int32), u.2.1, u.2.2) (1 : Int32)).2, rfl, (⟨by rw [kset, if_pos c_2, if_neg c_4, if_neg c_6], by rw [kset, if_pos c_2, if_neg c_4, if_neg c_6]⟩), by rw [ht9]; exact hP, va_K.moved hW9.alike hK, hD⟩, hS.F ht9⟩) hS.2.2 dX1_set_35 hlocks
def kget (u : mS) (r : Int32) : Int64 × mS :=
  if (kout r) = (0 : Int32) then
    (u.2.1 r.toNatClampNeg, ((0 : Int32), u.2.1, u.2.2))
  else (((kfail ((0 : Int32), u.2.1, u.2.2) (1 : Int32)).1).toInt64, (kfail ((0 : Int32), u.2.1, u.2.2) (1 : Int32)).2)
set_option maxHeartbeats 4000000 in
set_option maxRecDepth 100000 in
theorem tX1_get (l : Launch) (t : Nat) (D : va_G) (m0 m1 m2 : Nat) (cJ cI : ClassId) (u : mS) (r : Int32) : gMl l yX1_get cX1_get 2 { frames := 2, cells := 0, slots := 0, locals := 60 } t D m0 m1 m2 cJ cI u [.int r] (fun z9 u9 => z9 = (kget u r).1 ∧ u9 = (kget u r).2) := by
  refine g_openMl (by decide +kernel) (Nat.le_of_ble_eq_true rfl) ?_
  intro p e s m below meth c ls A hA S hr hlocks hE hP hK hD hl
  obtain ⟨hx, hb, hml, hown, hts⟩ := id S
  have hs : ∀ w ∈ gws, w ∈ Cond.code yX1_get cX1_get 2 (some .long) :: gws := fun w h => List.mem_cons_of_mem _ h
  have hS : va_S A s.heap s.heap [] := va_S.rf
  have hl : lv_has ls 2 [(0, .ref m0), (1, .int r)] := hl
  refine lv_aload_n hx hb dX1_get_0 rfl (lv_at hl 0 rfl) ?_
  refine lv_iconst (v := 0) hx hb dX1_get_1 (by decide) ?_
  refine va_put (ci := 1) (v := .int (0 : Int32)) (ty := .int) (C := RX1) (T := TX1) (N := 3) hx hb hts (fun w h => hs _ (inX1g w h)) tyX1 tyX1_ok nmX1 hown hK hP hD hS 0 rfl rfl 0 (by decide) (hts _ (hs _ fl_X1_17)) (fun _ h9 => h9) rfl (by decide +kernel) rfl rfl (Nat.le_of_ble_eq_true rfl) dX1_get_2 (fun H locs hP hD hS => ?_)
  have hP : va_P D vwCl (wM m0 m1 m2 cJ cI ((0 : Int32), u.2.1, u.2.2)) H := hP
  have hD : va_D A (wM m0 m1 m2 cJ cI ((0 : Int32), u.2.1, u.2.2)) := hD
  refine lv_aload_n hx hb dX1_get_5 rfl (lv_at hl 0 rfl) ?_
  refine lv_iload_n hx hb dX1_get_6 rfl (lv_at hl 1 rfl) ?_
  refine g_callPi S hs (tX1_out l m0 r) (va_recv hK hP (ci := 1) (q0 := 0) rfl rfl) ml_X1_21 im_yX1_out se_yX1_out in_X1 cd_yX1_out hd_yX1_out ⟨by decide, by decide⟩ hl.1 rfl (Nat.le_of_ble_eq_true rfl) ⟨by decide, by decide⟩ dX1_get_7 (fun r_1 hr_1 => ?_)
  subst hr_1
  refine lv_if_eq (tgt := 22) hx hb dX1_get_10 (by decide) (fun c_2 => ?_) (fun c_2 => ?_)
  · refine lv_aload_n hx hb dX1_get_22 rfl (lv_at hl 0 rfl) ?_
    refine va_get (ci := 1) (v := .ref m1) (C := RX1) (T := TX1) (N := 3) hx hb hts (fun w h => hs _ (inX1g w h)) hown hK hP 0 rfl rfl 1 (by decide) (hts _ (hs _ fl_X1_7)) (fun _ h9 => h9) rfl dX1_get_23 ?_
    refine lv_iload_n hx hb dX1_get_26 rfl (lv_at hl 1 rfl) ?_
    refine va_lald hx hb hK hP 1 0 rfl rfl (out_in c_2) dX1_get_27 ?_
    exact W.lret (v := u.2.1 r.toNatClampNeg) hx hb hr (fun t9 ht9 hW9 => ⟨⟨u.2.1 r.toNatClampNeg, ((0 : Int32), u.2.1, u.2.2), rfl, (⟨by rw [kget, if_pos c_2], by rw [kget, if_pos c_2]⟩), by rw [ht9]; exact hP, va_K.moved hW9.alike hK, hD⟩, hS.F ht9⟩) hS.2.2 dX1_get_28 hlocks
  · refine lv_aload_n hx hb dX1_get_13 rfl (lv_at hl 0 rfl) ?_
    refine lv_iconst (v := 1) hx hb dX1_get_14 (by decide) ?_
    refine g_callMi S hs (tX1_fail l t D m0 m1 m2 cJ cI ((0 : Int32), u.2.1, u.2.2) (1 : Int32)) rfl ml_X1_29 im_yX1_fail se_yX1_fail cd_yX1_fail hd_yX1_fail ⟨by decide, by decide⟩ hE hS hA hP hK hD hl.1 rfl (Nat.le_of_ble_eq_true rfl) ⟨by decide, by decide⟩ dX1_get_15 (fun r_3 u_3 H locs hr_3 hP hD hS => ?_)
    obtain ⟨rfl, rfl⟩ := hr_3
    refine lv_i2l hx hb dX1_get_18 rfl ?_
    refine lv_goto (tgt := 28) hx hb dX1_get_19 (by decide) ?_
    exact W.lret (v := ((kfail ((0 : Int32), u.2.1, u.2.2) (1 : Int32)).1).toInt64) hx hb hr (fun t9 ht9 hW9 => ⟨⟨((kfail ((0 : Int32), u.2.1, u.2.2) (1 : Int32)).1).toInt64, (kfail ((0 : Int32), u.2.1, u.2.2) (1 : Int32)).2, rfl, (⟨by rw [kget, if_neg c_2], by rw [kget, if_neg c_2]⟩), by rw [ht9]; exact hP, va_K.moved hW9.alike hK, hD⟩, hS.F ht9⟩) hS.2.2 dX1_get_28 hlocks
def kreckon (u : mS) (r : Int32) (op : Int32) (a : Int32) (b : Int32) : Int64 × mS :=
  if (kout r) = (0 : Int32) then
    if op < (0 : Int32) then
      (((kfail ((0 : Int32), u.2.1, u.2.2) (1 : Int32)).1).toInt64, (kfail ((0 : Int32), u.2.1, u.2.2) (1 : Int32)).2)
    else if (4 : Int32) < op then
      (((kfail ((0 : Int32), u.2.1, u.2.2) (1 : Int32)).1).toInt64, (kfail ((0 : Int32), u.2.1, u.2.2) (1 : Int32)).2)
    else if (kout a) = (0 : Int32) then
      if (kout b) = (0 : Int32) then
        if op ≤ (2 : Int32) then
          if (2 : Int32) ≤ op then
            if (0 : Int64) ≤ (u.2.1 a.toNatClampNeg) then
              if (0 : Int64) ≤ (u.2.1 b.toNatClampNeg) then
                if op = (2 : Int32) then
                  ((kput ((0 : Int32), u.2.1, u.2.2) r (0 : Int32) (kproduct (jX1_size (u.2.1 a.toNatClampNeg)) (jX1_size (u.2.1 b.toNatClampNeg))) (3 : Int32)).1, (kput ((0 : Int32), u.2.1, u.2.2) r (0 : Int32) (kproduct (jX1_size (u.2.1 a.toNatClampNeg)) (jX1_size (u.2.1 b.toNatClampNeg))) (3 : Int32)).2)
                else (0, u)
              else if op = (2 : Int32) then
                ((kput ((0 : Int32), u.2.1, u.2.2) r (1 : Int32) (kproduct (jX1_size (u.2.1 a.toNatClampNeg)) (jX1_size (u.2.1 b.toNatClampNeg))) (3 : Int32)).1, (kput ((0 : Int32), u.2.1, u.2.2) r (1 : Int32) (kproduct (jX1_size (u.2.1 a.toNatClampNeg)) (jX1_size (u.2.1 b.toNatClampNeg))) (3 : Int32)).2)
              else (0, u)
            else if (0 : Int64) ≤ (u.2.1 b.toNatClampNeg) then
              if op = (2 : Int32) then
                ((kput ((0 : Int32), u.2.1, u.2.2) r (1 : Int32) (kproduct (jX1_size (u.2.1 a.toNatClampNeg)) (jX1_size (u.2.1 b.toNatClampNeg))) (3 : Int32)).1, (kput ((0 : Int32), u.2.1, u.2.2) r (1 : Int32) (kproduct (jX1_size (u.2.1 a.toNatClampNeg)) (jX1_size (u.2.1 b.toNatClampNeg))) (3 : Int32)).2)
              else (0, u)
            else if op = (2 : Int32) then
              ((kput ((0 : Int32), u.2.1, u.2.2) r (0 : Int32) (kproduct (jX1_size (u.2.1 a.toNatClampNeg)) (jX1_size (u.2.1 b.toNatClampNeg))) (3 : Int32)).1, (kput ((0 : Int32), u.2.1, u.2.2) r (0 : Int32) (kproduct (jX1_size (u.2.1 a.toNatClampNeg)) (jX1_size (u.2.1 b.toNatClampNeg))) (3 : Int32)).2)
            else (0, u)
          else if op = (0 : Int32) then
            if (0 : Int64) ≤ ((u.2.1 a.toNatClampNeg) + (u.2.1 b.toNatClampNeg)) then
              ((kput ((0 : Int32), u.2.1, u.2.2) r (0 : Int32) (jX1_size ((u.2.1 a.toNatClampNeg) + (u.2.1 b.toNatClampNeg))) (3 : Int32)).1, (kput ((0 : Int32), u.2.1, u.2.2) r (0 : Int32) (jX1_size ((u.2.1 a.toNatClampNeg) + (u.2.1 b.toNatClampNeg))) (3 : Int32)).2)
            else ((kput ((0 : Int32), u.2.1, u.2.2) r (1 : Int32) (jX1_size ((u.2.1 a.toNatClampNeg) + (u.2.1 b.toNatClampNeg))) (3 : Int32)).1, (kput ((0 : Int32), u.2.1, u.2.2) r (1 : Int32) (jX1_size ((u.2.1 a.toNatClampNeg) + (u.2.1 b.toNatClampNeg))) (3 : Int32)).2)
          else if (0 : Int64) ≤ ((u.2.1 a.toNatClampNeg) - (u.2.1 b.toNatClampNeg)) then
            ((kput ((0 : Int32), u.2.1, u.2.2) r (0 : Int32) (jX1_size ((u.2.1 a.toNatClampNeg) - (u.2.1 b.toNatClampNeg))) (3 : Int32)).1, (kput ((0 : Int32), u.2.1, u.2.2) r (0 : Int32) (jX1_size ((u.2.1 a.toNatClampNeg) - (u.2.1 b.toNatClampNeg))) (3 : Int32)).2)
          else ((kput ((0 : Int32), u.2.1, u.2.2) r (1 : Int32) (jX1_size ((u.2.1 a.toNatClampNeg) - (u.2.1 b.toNatClampNeg))) (3 : Int32)).1, (kput ((0 : Int32), u.2.1, u.2.2) r (1 : Int32) (jX1_size ((u.2.1 a.toNatClampNeg) - (u.2.1 b.toNatClampNeg))) (3 : Int32)).2)
        else if (u.2.1 b.toNatClampNeg) = (0 : Int64) then
          (((kfail ((0 : Int32), u.2.1, u.2.2) (2 : Int32)).1).toInt64, (kfail ((0 : Int32), u.2.1, u.2.2) (2 : Int32)).2)
        else if (2 : Int32) ≤ op then
          if (0 : Int64) ≤ (u.2.1 a.toNatClampNeg) then
            if (0 : Int64) ≤ (u.2.1 b.toNatClampNeg) then
              if op = (2 : Int32) then
                ((kput ((0 : Int32), u.2.1, u.2.2) r (0 : Int32) (kproduct (jX1_size (u.2.1 a.toNatClampNeg)) (jX1_size (u.2.1 b.toNatClampNeg))) (3 : Int32)).1, (kput ((0 : Int32), u.2.1, u.2.2) r (0 : Int32) (kproduct (jX1_size (u.2.1 a.toNatClampNeg)) (jX1_size (u.2.1 b.toNatClampNeg))) (3 : Int32)).2)
              else if op = (3 : Int32) then
                ((kput ((0 : Int32), u.2.1, u.2.2) r (0 : Int32) (kquotient (jX1_size (u.2.1 a.toNatClampNeg)) (jX1_size (u.2.1 b.toNatClampNeg))) (3 : Int32)).1, (kput ((0 : Int32), u.2.1, u.2.2) r (0 : Int32) (kquotient (jX1_size (u.2.1 a.toNatClampNeg)) (jX1_size (u.2.1 b.toNatClampNeg))) (3 : Int32)).2)
              else if ((jX1_size (u.2.1 a.toNatClampNeg)) - (jX1_size (u.2.1 a.toNatClampNeg)) / (jX1_size (u.2.1 b.toNatClampNeg)) * (jX1_size (u.2.1 b.toNatClampNeg))) ≤ (0 : Int64) then
                ((kput ((0 : Int32), u.2.1, u.2.2) r (0 : Int32) ((jX1_size (u.2.1 a.toNatClampNeg)) - (jX1_size (u.2.1 a.toNatClampNeg)) / (jX1_size (u.2.1 b.toNatClampNeg)) * (jX1_size (u.2.1 b.toNatClampNeg))) (3 : Int32)).1, (kput ((0 : Int32), u.2.1, u.2.2) r (0 : Int32) ((jX1_size (u.2.1 a.toNatClampNeg)) - (jX1_size (u.2.1 a.toNatClampNeg)) / (jX1_size (u.2.1 b.toNatClampNeg)) * (jX1_size (u.2.1 b.toNatClampNeg))) (3 : Int32)).2)
              else ((kput ((0 : Int32), u.2.1, u.2.2) r (0 : Int32) ((jX1_size (u.2.1 a.toNatClampNeg)) - (jX1_size (u.2.1 a.toNatClampNeg)) / (jX1_size (u.2.1 b.toNatClampNeg)) * (jX1_size (u.2.1 b.toNatClampNeg))) (3 : Int32)).1, (kput ((0 : Int32), u.2.1, u.2.2) r (0 : Int32) ((jX1_size (u.2.1 a.toNatClampNeg)) - (jX1_size (u.2.1 a.toNatClampNeg)) / (jX1_size (u.2.1 b.toNatClampNeg)) * (jX1_size (u.2.1 b.toNatClampNeg))) (3 : Int32)).2)
            else if op = (2 : Int32) then
              ((kput ((0 : Int32), u.2.1, u.2.2) r (1 : Int32) (kproduct (jX1_size (u.2.1 a.toNatClampNeg)) (jX1_size (u.2.1 b.toNatClampNeg))) (3 : Int32)).1, (kput ((0 : Int32), u.2.1, u.2.2) r (1 : Int32) (kproduct (jX1_size (u.2.1 a.toNatClampNeg)) (jX1_size (u.2.1 b.toNatClampNeg))) (3 : Int32)).2)
            else if op = (3 : Int32) then
              ((kput ((0 : Int32), u.2.1, u.2.2) r (1 : Int32) (kquotient (jX1_size (u.2.1 a.toNatClampNeg)) (jX1_size (u.2.1 b.toNatClampNeg))) (3 : Int32)).1, (kput ((0 : Int32), u.2.1, u.2.2) r (1 : Int32) (kquotient (jX1_size (u.2.1 a.toNatClampNeg)) (jX1_size (u.2.1 b.toNatClampNeg))) (3 : Int32)).2)
            else if ((jX1_size (u.2.1 a.toNatClampNeg)) - (jX1_size (u.2.1 a.toNatClampNeg)) / (jX1_size (u.2.1 b.toNatClampNeg)) * (jX1_size (u.2.1 b.toNatClampNeg))) ≤ (0 : Int64) then
              ((kput ((0 : Int32), u.2.1, u.2.2) r (1 : Int32) ((jX1_size (u.2.1 a.toNatClampNeg)) - (jX1_size (u.2.1 a.toNatClampNeg)) / (jX1_size (u.2.1 b.toNatClampNeg)) * (jX1_size (u.2.1 b.toNatClampNeg))) (3 : Int32)).1, (kput ((0 : Int32), u.2.1, u.2.2) r (1 : Int32) ((jX1_size (u.2.1 a.toNatClampNeg)) - (jX1_size (u.2.1 a.toNatClampNeg)) / (jX1_size (u.2.1 b.toNatClampNeg)) * (jX1_size (u.2.1 b.toNatClampNeg))) (3 : Int32)).2)
            else ((kput ((0 : Int32), u.2.1, u.2.2) r (1 : Int32) ((jX1_size (u.2.1 b.toNatClampNeg)) - ((jX1_size (u.2.1 a.toNatClampNeg)) - (jX1_size (u.2.1 a.toNatClampNeg)) / (jX1_size (u.2.1 b.toNatClampNeg)) * (jX1_size (u.2.1 b.toNatClampNeg)))) (3 : Int32)).1, (kput ((0 : Int32), u.2.1, u.2.2) r (1 : Int32) ((jX1_size (u.2.1 b.toNatClampNeg)) - ((jX1_size (u.2.1 a.toNatClampNeg)) - (jX1_size (u.2.1 a.toNatClampNeg)) / (jX1_size (u.2.1 b.toNatClampNeg)) * (jX1_size (u.2.1 b.toNatClampNeg)))) (3 : Int32)).2)
          else if (0 : Int64) ≤ (u.2.1 b.toNatClampNeg) then
            if op = (2 : Int32) then
              ((kput ((0 : Int32), u.2.1, u.2.2) r (1 : Int32) (kproduct (jX1_size (u.2.1 a.toNatClampNeg)) (jX1_size (u.2.1 b.toNatClampNeg))) (3 : Int32)).1, (kput ((0 : Int32), u.2.1, u.2.2) r (1 : Int32) (kproduct (jX1_size (u.2.1 a.toNatClampNeg)) (jX1_size (u.2.1 b.toNatClampNeg))) (3 : Int32)).2)
            else if op = (3 : Int32) then
              ((kput ((0 : Int32), u.2.1, u.2.2) r (1 : Int32) (kquotient (jX1_size (u.2.1 a.toNatClampNeg)) (jX1_size (u.2.1 b.toNatClampNeg))) (3 : Int32)).1, (kput ((0 : Int32), u.2.1, u.2.2) r (1 : Int32) (kquotient (jX1_size (u.2.1 a.toNatClampNeg)) (jX1_size (u.2.1 b.toNatClampNeg))) (3 : Int32)).2)
            else if ((jX1_size (u.2.1 a.toNatClampNeg)) - (jX1_size (u.2.1 a.toNatClampNeg)) / (jX1_size (u.2.1 b.toNatClampNeg)) * (jX1_size (u.2.1 b.toNatClampNeg))) ≤ (0 : Int64) then
              ((kput ((0 : Int32), u.2.1, u.2.2) r (0 : Int32) ((jX1_size (u.2.1 a.toNatClampNeg)) - (jX1_size (u.2.1 a.toNatClampNeg)) / (jX1_size (u.2.1 b.toNatClampNeg)) * (jX1_size (u.2.1 b.toNatClampNeg))) (3 : Int32)).1, (kput ((0 : Int32), u.2.1, u.2.2) r (0 : Int32) ((jX1_size (u.2.1 a.toNatClampNeg)) - (jX1_size (u.2.1 a.toNatClampNeg)) / (jX1_size (u.2.1 b.toNatClampNeg)) * (jX1_size (u.2.1 b.toNatClampNeg))) (3 : Int32)).2)
            else ((kput ((0 : Int32), u.2.1, u.2.2) r (0 : Int32) ((jX1_size (u.2.1 b.toNatClampNeg)) - ((jX1_size (u.2.1 a.toNatClampNeg)) - (jX1_size (u.2.1 a.toNatClampNeg)) / (jX1_size (u.2.1 b.toNatClampNeg)) * (jX1_size (u.2.1 b.toNatClampNeg)))) (3 : Int32)).1, (kput ((0 : Int32), u.2.1, u.2.2) r (0 : Int32) ((jX1_size (u.2.1 b.toNatClampNeg)) - ((jX1_size (u.2.1 a.toNatClampNeg)) - (jX1_size (u.2.1 a.toNatClampNeg)) / (jX1_size (u.2.1 b.toNatClampNeg)) * (jX1_size (u.2.1 b.toNatClampNeg)))) (3 : Int32)).2)
          else if op = (2 : Int32) then
            ((kput ((0 : Int32), u.2.1, u.2.2) r (0 : Int32) (kproduct (jX1_size (u.2.1 a.toNatClampNeg)) (jX1_size (u.2.1 b.toNatClampNeg))) (3 : Int32)).1, (kput ((0 : Int32), u.2.1, u.2.2) r (0 : Int32) (kproduct (jX1_size (u.2.1 a.toNatClampNeg)) (jX1_size (u.2.1 b.toNatClampNeg))) (3 : Int32)).2)
          else if op = (3 : Int32) then
            ((kput ((0 : Int32), u.2.1, u.2.2) r (0 : Int32) (kquotient (jX1_size (u.2.1 a.toNatClampNeg)) (jX1_size (u.2.1 b.toNatClampNeg))) (3 : Int32)).1, (kput ((0 : Int32), u.2.1, u.2.2) r (0 : Int32) (kquotient (jX1_size (u.2.1 a.toNatClampNeg)) (jX1_size (u.2.1 b.toNatClampNeg))) (3 : Int32)).2)
          else if ((jX1_size (u.2.1 a.toNatClampNeg)) - (jX1_size (u.2.1 a.toNatClampNeg)) / (jX1_size (u.2.1 b.toNatClampNeg)) * (jX1_size (u.2.1 b.toNatClampNeg))) ≤ (0 : Int64) then
            ((kput ((0 : Int32), u.2.1, u.2.2) r (1 : Int32) ((jX1_size (u.2.1 a.toNatClampNeg)) - (jX1_size (u.2.1 a.toNatClampNeg)) / (jX1_size (u.2.1 b.toNatClampNeg)) * (jX1_size (u.2.1 b.toNatClampNeg))) (3 : Int32)).1, (kput ((0 : Int32), u.2.1, u.2.2) r (1 : Int32) ((jX1_size (u.2.1 a.toNatClampNeg)) - (jX1_size (u.2.1 a.toNatClampNeg)) / (jX1_size (u.2.1 b.toNatClampNeg)) * (jX1_size (u.2.1 b.toNatClampNeg))) (3 : Int32)).2)
          else ((kput ((0 : Int32), u.2.1, u.2.2) r (1 : Int32) ((jX1_size (u.2.1 a.toNatClampNeg)) - (jX1_size (u.2.1 a.toNatClampNeg)) / (jX1_size (u.2.1 b.toNatClampNeg)) * (jX1_size (u.2.1 b.toNatClampNeg))) (3 : Int32)).1, (kput ((0 : Int32), u.2.1, u.2.2) r (1 : Int32) ((jX1_size (u.2.1 a.toNatClampNeg)) - (jX1_size (u.2.1 a.toNatClampNeg)) / (jX1_size (u.2.1 b.toNatClampNeg)) * (jX1_size (u.2.1 b.toNatClampNeg))) (3 : Int32)).2)
        else if op = (0 : Int32) then
          if (0 : Int64) ≤ ((u.2.1 a.toNatClampNeg) + (u.2.1 b.toNatClampNeg)) then
            ((kput ((0 : Int32), u.2.1, u.2.2) r (0 : Int32) (jX1_size ((u.2.1 a.toNatClampNeg) + (u.2.1 b.toNatClampNeg))) (3 : Int32)).1, (kput ((0 : Int32), u.2.1, u.2.2) r (0 : Int32) (jX1_size ((u.2.1 a.toNatClampNeg) + (u.2.1 b.toNatClampNeg))) (3 : Int32)).2)
          else ((kput ((0 : Int32), u.2.1, u.2.2) r (1 : Int32) (jX1_size ((u.2.1 a.toNatClampNeg) + (u.2.1 b.toNatClampNeg))) (3 : Int32)).1, (kput ((0 : Int32), u.2.1, u.2.2) r (1 : Int32) (jX1_size ((u.2.1 a.toNatClampNeg) + (u.2.1 b.toNatClampNeg))) (3 : Int32)).2)
        else if (0 : Int64) ≤ ((u.2.1 a.toNatClampNeg) - (u.2.1 b.toNatClampNeg)) then
          ((kput ((0 : Int32), u.2.1, u.2.2) r (0 : Int32) (jX1_size ((u.2.1 a.toNatClampNeg) - (u.2.1 b.toNatClampNeg))) (3 : Int32)).1, (kput ((0 : Int32), u.2.1, u.2.2) r (0 : Int32) (jX1_size ((u.2.1 a.toNatClampNeg) - (u.2.1 b.toNatClampNeg))) (3 : Int32)).2)
        else ((kput ((0 : Int32), u.2.1, u.2.2) r (1 : Int32) (jX1_size ((u.2.1 a.toNatClampNeg) - (u.2.1 b.toNatClampNeg))) (3 : Int32)).1, (kput ((0 : Int32), u.2.1, u.2.2) r (1 : Int32) (jX1_size ((u.2.1 a.toNatClampNeg) - (u.2.1 b.toNatClampNeg))) (3 : Int32)).2)
      else (((kfail ((0 : Int32), u.2.1, u.2.2) (1 : Int32)).1).toInt64, (kfail ((0 : Int32), u.2.1, u.2.2) (1 : Int32)).2)
    else (((kfail ((0 : Int32), u.2.1, u.2.2) (1 : Int32)).1).toInt64, (kfail ((0 : Int32), u.2.1, u.2.2) (1 : Int32)).2)
  else (((kfail ((0 : Int32), u.2.1, u.2.2) (1 : Int32)).1).toInt64, (kfail ((0 : Int32), u.2.1, u.2.2) (1 : Int32)).2)
set_option maxHeartbeats 4000000 in
set_option maxRecDepth 100000 in
theorem tX1_reckon (l : Launch) (t : Nat) (D : va_G) (m0 m1 m2 : Nat) (cJ cI : ClassId) (u : mS) (r : Int32) (op : Int32) (a : Int32) (b : Int32) : gMl l yX1_reckon cX1_reckon 12 { frames := 2, cells := 0, slots := 0, locals := 60 } t D m0 m1 m2 cJ cI u [.int r, .int op, .int a, .int b] (fun z9 u9 => z9 = (kreckon u r op a b).1 ∧ u9 = (kreckon u r op a b).2) := by
  refine g_openMl (by decide +kernel) (Nat.le_of_ble_eq_true rfl) ?_
  intro p e s m below meth c ls A hA S hr hlocks hE hP hK hD hl
  obtain ⟨hx, hb, hml, hown, hts⟩ := id S
  have hs : ∀ w ∈ gws, w ∈ Cond.code yX1_reckon cX1_reckon 12 (some .long) :: gws := fun w h => List.mem_cons_of_mem _ h
  have hS : va_S A s.heap s.heap [] := va_S.rf
  have hl : lv_has ls 12 [(0, .ref m0), (1, .int r), (2, .int op), (3, .int a), (4, .int b)] := hl
  refine lv_aload_n hx hb dX1_reckon_0 rfl (lv_at hl 0 rfl) ?_
  refine lv_iconst (v := 0) hx hb dX1_reckon_1 (by decide) ?_
  refine va_put (ci := 1) (v := .int (0 : Int32)) (ty := .int) (C := RX1) (T := TX1) (N := 3) hx hb hts (fun w h => hs _ (inX1g w h)) tyX1 tyX1_ok nmX1 hown hK hP hD hS 0 rfl rfl 0 (by decide) (hts _ (hs _ fl_X1_17)) (fun _ h9 => h9) rfl (by decide +kernel) rfl rfl (Nat.le_of_ble_eq_true rfl) dX1_reckon_2 (fun H locs hP hD hS => ?_)
  have hP : va_P D vwCl (wM m0 m1 m2 cJ cI ((0 : Int32), u.2.1, u.2.2)) H := hP
  have hD : va_D A (wM m0 m1 m2 cJ cI ((0 : Int32), u.2.1, u.2.2)) := hD
  refine lv_aload_n hx hb dX1_reckon_5 rfl (lv_at hl 0 rfl) ?_
  refine lv_iload_n hx hb dX1_reckon_6 rfl (lv_at hl 1 rfl) ?_
  refine g_callPi S hs (tX1_out l m0 r) (va_recv hK hP (ci := 1) (q0 := 0) rfl rfl) ml_X1_21 im_yX1_out se_yX1_out in_X1 cd_yX1_out hd_yX1_out ⟨by decide, by decide⟩ hl.1 rfl (Nat.le_of_ble_eq_true rfl) ⟨by decide, by decide⟩ dX1_reckon_7 (fun r_1 hr_1 => ?_)
  subst hr_1
  refine lv_if_ne (tgt := 39) hx hb dX1_reckon_10 (by decide) (fun c_2 => ?_) (fun c_2 => ?_)
  · refine lv_aload_n hx hb dX1_reckon_39 rfl (lv_at hl 0 rfl) ?_
    refine lv_iconst (v := 1) hx hb dX1_reckon_40 (by decide) ?_
    refine g_callMi S hs (tX1_fail l t D m0 m1 m2 cJ cI ((0 : Int32), u.2.1, u.2.2) (1 : Int32)) rfl ml_X1_29 im_yX1_fail se_yX1_fail cd_yX1_fail hd_yX1_fail ⟨by decide, by decide⟩ hE hS hA hP hK hD hl.1 rfl (Nat.le_of_ble_eq_true rfl) ⟨by decide, by decide⟩ dX1_reckon_41 (fun r_3 u_3 H locs hr_3 hP hD hS => ?_)
    obtain ⟨rfl, rfl⟩ := hr_3
    refine lv_i2l hx hb dX1_reckon_44 rfl ?_
    exact W.lret (v := ((kfail ((0 : Int32), u.2.1, u.2.2) (1 : Int32)).1).toInt64) hx hb hr (fun t9 ht9 hW9 => ⟨⟨((kfail ((0 : Int32), u.2.1, u.2.2) (1 : Int32)).1).toInt64, (kfail ((0 : Int32), u.2.1, u.2.2) (1 : Int32)).2, rfl, (⟨by rw [kreckon, if_neg c_2], by rw [kreckon, if_neg c_2]⟩), by rw [ht9]; exact hP, va_K.moved hW9.alike hK, hD⟩, hS.F ht9⟩) hS.2.2 dX1_reckon_45 hlocks
  · refine lv_iload_n hx hb dX1_reckon_13 rfl (lv_at hl 2 rfl) ?_
    refine lv_if_lt (tgt := 39) hx hb dX1_reckon_14 (by decide) (fun c_4 => ?_) (fun c_4 => ?_)
    · refine lv_aload_n hx hb dX1_reckon_39 rfl (lv_at hl 0 rfl) ?_
      refine lv_iconst (v := 1) hx hb dX1_reckon_40 (by decide) ?_
      refine g_callMi S hs (tX1_fail l t D m0 m1 m2 cJ cI ((0 : Int32), u.2.1, u.2.2) (1 : Int32)) rfl ml_X1_29 im_yX1_fail se_yX1_fail cd_yX1_fail hd_yX1_fail ⟨by decide, by decide⟩ hE hS hA hP hK hD hl.1 rfl (Nat.le_of_ble_eq_true rfl) ⟨by decide, by decide⟩ dX1_reckon_41 (fun r_5 u_5 H locs hr_5 hP hD hS => ?_)
      obtain ⟨rfl, rfl⟩ := hr_5
      refine lv_i2l hx hb dX1_reckon_44 rfl ?_
      exact W.lret (v := ((kfail ((0 : Int32), u.2.1, u.2.2) (1 : Int32)).1).toInt64) hx hb hr (fun t9 ht9 hW9 => ⟨⟨((kfail ((0 : Int32), u.2.1, u.2.2) (1 : Int32)).1).toInt64, (kfail ((0 : Int32), u.2.1, u.2.2) (1 : Int32)).2, rfl, (⟨by rw [kreckon, if_pos c_2, if_pos c_4], by rw [kreckon, if_pos c_2, if_pos c_4]⟩), by rw [ht9]; exact hP, va_K.moved hW9.alike hK, hD⟩, hS.F ht9⟩) hS.2.2 dX1_reckon_45 hlocks
    · refine lv_iload_n hx hb dX1_reckon_17 rfl (lv_at hl 2 rfl) ?_
      refine lv_iconst (v := 4) hx hb dX1_reckon_18 (by decide) ?_
      refine lv_icmp_gt (tgt := 39) hx hb dX1_reckon_19 (by decide) (fun c_6 => ?_) (fun c_6 => ?_)
      · refine lv_aload_n hx hb dX1_reckon_39 rfl (lv_at hl 0 rfl) ?_
        refine lv_iconst (v := 1) hx hb dX1_reckon_40 (by decide) ?_
        refine g_callMi S hs (tX1_fail l t D m0 m1 m2 cJ cI ((0 : Int32), u.2.1, u.2.2) (1 : Int32)) rfl ml_X1_29 im_yX1_fail se_yX1_fail cd_yX1_fail hd_yX1_fail ⟨by decide, by decide⟩ hE hS hA hP hK hD hl.1 rfl (Nat.le_of_ble_eq_true rfl) ⟨by decide, by decide⟩ dX1_reckon_41 (fun r_7 u_7 H locs hr_7 hP hD hS => ?_)
        obtain ⟨rfl, rfl⟩ := hr_7
        refine lv_i2l hx hb dX1_reckon_44 rfl ?_
        exact W.lret (v := ((kfail ((0 : Int32), u.2.1, u.2.2) (1 : Int32)).1).toInt64) hx hb hr (fun t9 ht9 hW9 => ⟨⟨((kfail ((0 : Int32), u.2.1, u.2.2) (1 : Int32)).1).toInt64, (kfail ((0 : Int32), u.2.1, u.2.2) (1 : Int32)).2, rfl, (⟨by rw [kreckon, if_pos c_2, if_neg c_4, if_pos c_6], by rw [kreckon, if_pos c_2, if_neg c_4, if_pos c_6]⟩), by rw [ht9]; exact hP, va_K.moved hW9.alike hK, hD⟩, hS.F ht9⟩) hS.2.2 dX1_reckon_45 hlocks
      · refine lv_aload_n hx hb dX1_reckon_22 rfl (lv_at hl 0 rfl) ?_
        refine lv_iload_n hx hb dX1_reckon_23 rfl (lv_at hl 3 rfl) ?_
        refine g_callPi S hs (tX1_out l m0 a) (va_recv hK hP (ci := 1) (q0 := 0) rfl rfl) ml_X1_21 im_yX1_out se_yX1_out in_X1 cd_yX1_out hd_yX1_out ⟨by decide, by decide⟩ hl.1 rfl (Nat.le_of_ble_eq_true rfl) ⟨by decide, by decide⟩ dX1_reckon_24 (fun r_8 hr_8 => ?_)
        subst hr_8
        refine lv_if_ne (tgt := 39) hx hb dX1_reckon_27 (by decide) (fun c_9 => ?_) (fun c_9 => ?_)
        · refine lv_aload_n hx hb dX1_reckon_39 rfl (lv_at hl 0 rfl) ?_
          refine lv_iconst (v := 1) hx hb dX1_reckon_40 (by decide) ?_
          refine g_callMi S hs (tX1_fail l t D m0 m1 m2 cJ cI ((0 : Int32), u.2.1, u.2.2) (1 : Int32)) rfl ml_X1_29 im_yX1_fail se_yX1_fail cd_yX1_fail hd_yX1_fail ⟨by decide, by decide⟩ hE hS hA hP hK hD hl.1 rfl (Nat.le_of_ble_eq_true rfl) ⟨by decide, by decide⟩ dX1_reckon_41 (fun r_10 u_10 H locs hr_10 hP hD hS => ?_)
          obtain ⟨rfl, rfl⟩ := hr_10
          refine lv_i2l hx hb dX1_reckon_44 rfl ?_
          exact W.lret (v := ((kfail ((0 : Int32), u.2.1, u.2.2) (1 : Int32)).1).toInt64) hx hb hr (fun t9 ht9 hW9 => ⟨⟨((kfail ((0 : Int32), u.2.1, u.2.2) (1 : Int32)).1).toInt64, (kfail ((0 : Int32), u.2.1, u.2.2) (1 : Int32)).2, rfl, (⟨by rw [kreckon, if_pos c_2, if_neg c_4, if_neg c_6, if_neg c_9], by rw [kreckon, if_pos c_2, if_neg c_4, if_neg c_6, if_neg c_9]⟩), by rw [ht9]; exact hP, va_K.moved hW9.alike hK, hD⟩, hS.F ht9⟩) hS.2.2 dX1_reckon_45 hlocks
        · refine lv_aload_n hx hb dX1_reckon_30 rfl (lv_at hl 0 rfl) ?_
          refine lv_iload hx hb dX1_reckon_31 (lv_at hl 4 rfl) ?_
          refine g_callPi S hs (tX1_out l m0 b) (va_recv hK hP (ci := 1) (q0 := 0) rfl rfl) ml_X1_21 im_yX1_out se_yX1_out in_X1 cd_yX1_out hd_yX1_out ⟨by decide, by decide⟩ hl.1 rfl (Nat.le_of_ble_eq_true rfl) ⟨by decide, by decide⟩ dX1_reckon_33 (fun r_11 hr_11 => ?_)
          subst hr_11
          refine lv_if_eq (tgt := 46) hx hb dX1_reckon_36 (by decide) (fun c_12 => ?_) (fun c_12 => ?_)
          · refine lv_aload_n hx hb dX1_reckon_46 rfl (lv_at hl 0 rfl) ?_
            refine va_get (ci := 1) (v := .ref m1) (C := RX1) (T := TX1) (N := 3) hx hb hts (fun w h => hs _ (inX1g w h)) hown hK hP 0 rfl rfl 1 (by decide) (hts _ (hs _ fl_X1_7)) (fun _ h9 => h9) rfl dX1_reckon_47 ?_
            refine lv_iload_n hx hb dX1_reckon_50 rfl (lv_at hl 3 rfl) ?_
            refine va_lald hx hb hK hP 1 0 rfl rfl (out_in c_9) dX1_reckon_51 ?_
            refine lv_lstore (lv' := [(5, .long (u.2.1 a.toNatClampNeg)), (0, .ref m0), (1, .int r), (2, .int op), (3, .int a), (4, .int b)]) hx hb dX1_reckon_52 hl (by decide) rfl (fun ls hl => ?_)
            refine lv_aload_n hx hb dX1_reckon_54 rfl (lv_at hl 1 rfl) ?_
            refine va_get (ci := 1) (v := .ref m1) (C := RX1) (T := TX1) (N := 3) hx hb hts (fun w h => hs _ (inX1g w h)) hown hK hP 0 rfl rfl 1 (by decide) (hts _ (hs _ fl_X1_7)) (fun _ h9 => h9) rfl dX1_reckon_55 ?_
            refine lv_iload hx hb dX1_reckon_58 (lv_at hl 5 rfl) ?_
            refine va_lald hx hb hK hP 1 0 rfl rfl (out_in c_12) dX1_reckon_60 ?_
            refine lv_lstore (lv' := [(7, .long (u.2.1 b.toNatClampNeg)), (5, .long (u.2.1 a.toNatClampNeg)), (0, .ref m0), (1, .int r), (2, .int op), (3, .int a), (4, .int b)]) hx hb dX1_reckon_61 hl (by decide) rfl (fun ls hl => ?_)
            refine lv_iload_n hx hb dX1_reckon_63 rfl (lv_at hl 4 rfl) ?_
            refine lv_iconst (v := 2) hx hb dX1_reckon_64 (by decide) ?_
            refine lv_icmp_le (tgt := 82) hx hb dX1_reckon_65 (by decide) (fun c_13 => ?_) (fun c_13 => ?_)
            · refine lv_iload_n hx hb dX1_reckon_82 rfl (lv_at hl 4 rfl) ?_
              refine lv_iconst (v := 2) hx hb dX1_reckon_83 (by decide) ?_
              refine lv_icmp_ge (tgt := 130) hx hb dX1_reckon_84 (by decide) (fun c_14 => ?_) (fun c_14 => ?_)
              · refine lv_lload hx hb dX1_reckon_130 (lv_at hl 1 rfl) ?_
                refine lv_lconst (v := 0) hx hb dX1_reckon_132 (by decide) ?_
                refine g_lc_ge (tgt := 141) hx hb dX1_reckon_133 dX1_reckon_134 (by decide) (fun c_15 => ?_) (fun c_15 => ?_)
                · refine lv_iconst (v := 0) hx hb dX1_reckon_141 (by decide) ?_
                  refine lv_lload hx hb dX1_reckon_142 (lv_at hl 0 rfl) ?_
                  refine lv_lconst (v := 0) hx hb dX1_reckon_144 (by decide) ?_
                  refine g_lc_ge (tgt := 153) hx hb dX1_reckon_145 dX1_reckon_146 (by decide) (fun c_16 => ?_) (fun c_16 => ?_)
                  · refine lv_iconst (v := 0) hx hb dX1_reckon_153 (by decide) ?_
                    refine lv_icmp_eq (tgt := 161) hx hb dX1_reckon_154 (by decide) (fun c_17 => ?_) (fun c_17 => absurd c_17 (by decide))
                    refine lv_iconst (v := 0) hx hb dX1_reckon_161 (by decide) ?_
                    refine lv_istore (lv' := [(9, .int (0 : Int32)), (7, .long (u.2.1 b.toNatClampNeg)), (5, .long (u.2.1 a.toNatClampNeg)), (0, .ref m0), (1, .int r), (2, .int op), (3, .int a), (4, .int b)]) hx hb dX1_reckon_162 hl (by decide) rfl (fun ls hl => ?_)
                    refine lv_iload_n hx hb dX1_reckon_164 rfl (lv_at hl 5 rfl) ?_
                    refine lv_iconst (v := 2) hx hb dX1_reckon_165 (by decide) ?_
                    refine lv_icmp_ne (tgt := 192) hx hb dX1_reckon_166 (by decide) (fun c_18 => ?_) (fun c_18 => ?_)
                    · exact absurd (Int32.le_antisymm c_13 c_14) c_18
                    · refine lv_aload_n hx hb dX1_reckon_169 rfl (lv_at hl 3 rfl) ?_
                      refine lv_iload_n hx hb dX1_reckon_170 rfl (lv_at hl 4 rfl) ?_
                      refine lv_iload hx hb dX1_reckon_171 (lv_at hl 0 rfl) ?_
                      refine lv_aload_n hx hb dX1_reckon_173 rfl (lv_at hl 3 rfl) ?_
                      refine lv_lload hx hb dX1_reckon_174 (lv_at hl 2 rfl) ?_
                      refine g_callSl S hs (tX1_size l t (u.2.1 a.toNatClampNeg)) ml_X1_39 st_yX1_size in_X1 cd_yX1_size hd_yX1_size ⟨by decide, by decide⟩ hE hS hA hl.1 rfl (Nat.le_of_ble_eq_true rfl) ⟨by decide, by decide⟩ dX1_reckon_176 (fun r_19 hr_19 => ?_)
                      subst hr_19
                      refine lv_lload hx hb dX1_reckon_179 (lv_at hl 1 rfl) ?_
                      refine g_callSl S hs (tX1_size l t (u.2.1 b.toNatClampNeg)) ml_X1_39 st_yX1_size in_X1 cd_yX1_size hd_yX1_size ⟨by decide, by decide⟩ hE hS hA hl.1 rfl (Nat.le_of_ble_eq_true rfl) ⟨by decide, by decide⟩ dX1_reckon_181 (fun r_20 hr_20 => ?_)
                      subst hr_20
                      refine g_callPl S hs (tX1_product l m0 (jX1_size (u.2.1 a.toNatClampNeg)) (jX1_size (u.2.1 b.toNatClampNeg))) (va_recv hK hP (ci := 1) (q0 := 0) rfl rfl) ml_X1_47 im_yX1_product se_yX1_product in_X1 cd_yX1_product hd_yX1_product ⟨by decide, by decide⟩ hl.1 rfl (Nat.le_of_ble_eq_true rfl) ⟨by decide, by decide⟩ dX1_reckon_184 (fun r_21 hr_21 => ?_)
                      subst hr_21
                      refine lv_iconst (v := 3) hx hb dX1_reckon_187 (by decide) ?_
                      refine g_callMl S hs (tX1_put l t D m0 m1 m2 cJ cI ((0 : Int32), u.2.1, u.2.2) r (0 : Int32) (kproduct (jX1_size (u.2.1 a.toNatClampNeg)) (jX1_size (u.2.1 b.toNatClampNeg))) (3 : Int32) (out_in (by assumption))) rfl ml_X1_43 im_yX1_put se_yX1_put cd_yX1_put hd_yX1_put ⟨by decide, by decide⟩ hE hS hA hP hK hD hl.1 rfl (Nat.le_of_ble_eq_true rfl) ⟨by decide, by decide⟩ dX1_reckon_188 (fun r_22 u_22 H locs hr_22 hP hD hS => ?_)
                      obtain ⟨rfl, rfl⟩ := hr_22
                      exact W.lret (v := (kput ((0 : Int32), u.2.1, u.2.2) r (0 : Int32) (kproduct (jX1_size (u.2.1 a.toNatClampNeg)) (jX1_size (u.2.1 b.toNatClampNeg))) (3 : Int32)).1) hx hb hr (fun t9 ht9 hW9 => ⟨⟨(kput ((0 : Int32), u.2.1, u.2.2) r (0 : Int32) (kproduct (jX1_size (u.2.1 a.toNatClampNeg)) (jX1_size (u.2.1 b.toNatClampNeg))) (3 : Int32)).1, (kput ((0 : Int32), u.2.1, u.2.2) r (0 : Int32) (kproduct (jX1_size (u.2.1 a.toNatClampNeg)) (jX1_size (u.2.1 b.toNatClampNeg))) (3 : Int32)).2, rfl, (⟨by rw [kreckon, if_pos c_2, if_neg c_4, if_neg c_6, if_pos c_9, if_pos c_12, if_pos c_13, if_pos c_14, if_pos c_15, if_pos c_16, if_pos c_18], by rw [kreckon, if_pos c_2, if_neg c_4, if_neg c_6, if_pos c_9, if_pos c_12, if_pos c_13, if_pos c_14, if_pos c_15, if_pos c_16, if_pos c_18]⟩), by rw [ht9]; exact hP, va_K.moved hW9.alike hK, hD⟩, hS.F ht9⟩) hS.2.2 dX1_reckon_191 hlocks
                  · refine lv_iconst (v := 1) hx hb dX1_reckon_149 (by decide) ?_
                    refine lv_goto (tgt := 154) hx hb dX1_reckon_150 (by decide) ?_
                    refine lv_icmp_eq (tgt := 161) hx hb dX1_reckon_154 (by decide) (fun c_23 => absurd c_23 (by decide)) (fun c_23 => ?_)
                    refine lv_iconst (v := 1) hx hb dX1_reckon_157 (by decide) ?_
                    refine lv_goto (tgt := 162) hx hb dX1_reckon_158 (by decide) ?_
                    refine lv_istore (lv' := [(9, .int (1 : Int32)), (7, .long (u.2.1 b.toNatClampNeg)), (5, .long (u.2.1 a.toNatClampNeg)), (0, .ref m0), (1, .int r), (2, .int op), (3, .int a), (4, .int b)]) hx hb dX1_reckon_162 hl (by decide) rfl (fun ls hl => ?_)
                    refine lv_iload_n hx hb dX1_reckon_164 rfl (lv_at hl 5 rfl) ?_
                    refine lv_iconst (v := 2) hx hb dX1_reckon_165 (by decide) ?_
                    refine lv_icmp_ne (tgt := 192) hx hb dX1_reckon_166 (by decide) (fun c_24 => ?_) (fun c_24 => ?_)
                    · exact absurd (Int32.le_antisymm c_13 c_14) c_24
                    · refine lv_aload_n hx hb dX1_reckon_169 rfl (lv_at hl 3 rfl) ?_
                      refine lv_iload_n hx hb dX1_reckon_170 rfl (lv_at hl 4 rfl) ?_
                      refine lv_iload hx hb dX1_reckon_171 (lv_at hl 0 rfl) ?_
                      refine lv_aload_n hx hb dX1_reckon_173 rfl (lv_at hl 3 rfl) ?_
                      refine lv_lload hx hb dX1_reckon_174 (lv_at hl 2 rfl) ?_
                      refine g_callSl S hs (tX1_size l t (u.2.1 a.toNatClampNeg)) ml_X1_39 st_yX1_size in_X1 cd_yX1_size hd_yX1_size ⟨by decide, by decide⟩ hE hS hA hl.1 rfl (Nat.le_of_ble_eq_true rfl) ⟨by decide, by decide⟩ dX1_reckon_176 (fun r_25 hr_25 => ?_)
                      subst hr_25
                      refine lv_lload hx hb dX1_reckon_179 (lv_at hl 1 rfl) ?_
                      refine g_callSl S hs (tX1_size l t (u.2.1 b.toNatClampNeg)) ml_X1_39 st_yX1_size in_X1 cd_yX1_size hd_yX1_size ⟨by decide, by decide⟩ hE hS hA hl.1 rfl (Nat.le_of_ble_eq_true rfl) ⟨by decide, by decide⟩ dX1_reckon_181 (fun r_26 hr_26 => ?_)
                      subst hr_26
                      refine g_callPl S hs (tX1_product l m0 (jX1_size (u.2.1 a.toNatClampNeg)) (jX1_size (u.2.1 b.toNatClampNeg))) (va_recv hK hP (ci := 1) (q0 := 0) rfl rfl) ml_X1_47 im_yX1_product se_yX1_product in_X1 cd_yX1_product hd_yX1_product ⟨by decide, by decide⟩ hl.1 rfl (Nat.le_of_ble_eq_true rfl) ⟨by decide, by decide⟩ dX1_reckon_184 (fun r_27 hr_27 => ?_)
                      subst hr_27
                      refine lv_iconst (v := 3) hx hb dX1_reckon_187 (by decide) ?_
                      refine g_callMl S hs (tX1_put l t D m0 m1 m2 cJ cI ((0 : Int32), u.2.1, u.2.2) r (1 : Int32) (kproduct (jX1_size (u.2.1 a.toNatClampNeg)) (jX1_size (u.2.1 b.toNatClampNeg))) (3 : Int32) (out_in (by assumption))) rfl ml_X1_43 im_yX1_put se_yX1_put cd_yX1_put hd_yX1_put ⟨by decide, by decide⟩ hE hS hA hP hK hD hl.1 rfl (Nat.le_of_ble_eq_true rfl) ⟨by decide, by decide⟩ dX1_reckon_188 (fun r_28 u_28 H locs hr_28 hP hD hS => ?_)
                      obtain ⟨rfl, rfl⟩ := hr_28
                      exact W.lret (v := (kput ((0 : Int32), u.2.1, u.2.2) r (1 : Int32) (kproduct (jX1_size (u.2.1 a.toNatClampNeg)) (jX1_size (u.2.1 b.toNatClampNeg))) (3 : Int32)).1) hx hb hr (fun t9 ht9 hW9 => ⟨⟨(kput ((0 : Int32), u.2.1, u.2.2) r (1 : Int32) (kproduct (jX1_size (u.2.1 a.toNatClampNeg)) (jX1_size (u.2.1 b.toNatClampNeg))) (3 : Int32)).1, (kput ((0 : Int32), u.2.1, u.2.2) r (1 : Int32) (kproduct (jX1_size (u.2.1 a.toNatClampNeg)) (jX1_size (u.2.1 b.toNatClampNeg))) (3 : Int32)).2, rfl, (⟨by rw [kreckon, if_pos c_2, if_neg c_4, if_neg c_6, if_pos c_9, if_pos c_12, if_pos c_13, if_pos c_14, if_pos c_15, if_neg c_16, if_pos c_24], by rw [kreckon, if_pos c_2, if_neg c_4, if_neg c_6, if_pos c_9, if_pos c_12, if_pos c_13, if_pos c_14, if_pos c_15, if_neg c_16, if_pos c_24]⟩), by rw [ht9]; exact hP, va_K.moved hW9.alike hK, hD⟩, hS.F ht9⟩) hS.2.2 dX1_reckon_191 hlocks
                · refine lv_iconst (v := 1) hx hb dX1_reckon_137 (by decide) ?_
                  refine lv_goto (tgt := 142) hx hb dX1_reckon_138 (by decide) ?_
                  refine lv_lload hx hb dX1_reckon_142 (lv_at hl 0 rfl) ?_
                  refine lv_lconst (v := 0) hx hb dX1_reckon_144 (by decide) ?_
                  refine g_lc_ge (tgt := 153) hx hb dX1_reckon_145 dX1_reckon_146 (by decide) (fun c_29 => ?_) (fun c_29 => ?_)
                  · refine lv_iconst (v := 0) hx hb dX1_reckon_153 (by decide) ?_
                    refine lv_icmp_eq (tgt := 161) hx hb dX1_reckon_154 (by decide) (fun c_30 => absurd c_30 (by decide)) (fun c_30 => ?_)
                    refine lv_iconst (v := 1) hx hb dX1_reckon_157 (by decide) ?_
                    refine lv_goto (tgt := 162) hx hb dX1_reckon_158 (by decide) ?_
                    refine lv_istore (lv' := [(9, .int (1 : Int32)), (7, .long (u.2.1 b.toNatClampNeg)), (5, .long (u.2.1 a.toNatClampNeg)), (0, .ref m0), (1, .int r), (2, .int op), (3, .int a), (4, .int b)]) hx hb dX1_reckon_162 hl (by decide) rfl (fun ls hl => ?_)
                    refine lv_iload_n hx hb dX1_reckon_164 rfl (lv_at hl 5 rfl) ?_
                    refine lv_iconst (v := 2) hx hb dX1_reckon_165 (by decide) ?_
                    refine lv_icmp_ne (tgt := 192) hx hb dX1_reckon_166 (by decide) (fun c_31 => ?_) (fun c_31 => ?_)
                    · exact absurd (Int32.le_antisymm c_13 c_14) c_31
                    · refine lv_aload_n hx hb dX1_reckon_169 rfl (lv_at hl 3 rfl) ?_
                      refine lv_iload_n hx hb dX1_reckon_170 rfl (lv_at hl 4 rfl) ?_
                      refine lv_iload hx hb dX1_reckon_171 (lv_at hl 0 rfl) ?_
                      refine lv_aload_n hx hb dX1_reckon_173 rfl (lv_at hl 3 rfl) ?_
                      refine lv_lload hx hb dX1_reckon_174 (lv_at hl 2 rfl) ?_
                      refine g_callSl S hs (tX1_size l t (u.2.1 a.toNatClampNeg)) ml_X1_39 st_yX1_size in_X1 cd_yX1_size hd_yX1_size ⟨by decide, by decide⟩ hE hS hA hl.1 rfl (Nat.le_of_ble_eq_true rfl) ⟨by decide, by decide⟩ dX1_reckon_176 (fun r_32 hr_32 => ?_)
                      subst hr_32
                      refine lv_lload hx hb dX1_reckon_179 (lv_at hl 1 rfl) ?_
                      refine g_callSl S hs (tX1_size l t (u.2.1 b.toNatClampNeg)) ml_X1_39 st_yX1_size in_X1 cd_yX1_size hd_yX1_size ⟨by decide, by decide⟩ hE hS hA hl.1 rfl (Nat.le_of_ble_eq_true rfl) ⟨by decide, by decide⟩ dX1_reckon_181 (fun r_33 hr_33 => ?_)
                      subst hr_33
                      refine g_callPl S hs (tX1_product l m0 (jX1_size (u.2.1 a.toNatClampNeg)) (jX1_size (u.2.1 b.toNatClampNeg))) (va_recv hK hP (ci := 1) (q0 := 0) rfl rfl) ml_X1_47 im_yX1_product se_yX1_product in_X1 cd_yX1_product hd_yX1_product ⟨by decide, by decide⟩ hl.1 rfl (Nat.le_of_ble_eq_true rfl) ⟨by decide, by decide⟩ dX1_reckon_184 (fun r_34 hr_34 => ?_)
                      subst hr_34
                      refine lv_iconst (v := 3) hx hb dX1_reckon_187 (by decide) ?_
                      refine g_callMl S hs (tX1_put l t D m0 m1 m2 cJ cI ((0 : Int32), u.2.1, u.2.2) r (1 : Int32) (kproduct (jX1_size (u.2.1 a.toNatClampNeg)) (jX1_size (u.2.1 b.toNatClampNeg))) (3 : Int32) (out_in (by assumption))) rfl ml_X1_43 im_yX1_put se_yX1_put cd_yX1_put hd_yX1_put ⟨by decide, by decide⟩ hE hS hA hP hK hD hl.1 rfl (Nat.le_of_ble_eq_true rfl) ⟨by decide, by decide⟩ dX1_reckon_188 (fun r_35 u_35 H locs hr_35 hP hD hS => ?_)
                      obtain ⟨rfl, rfl⟩ := hr_35
                      exact W.lret (v := (kput ((0 : Int32), u.2.1, u.2.2) r (1 : Int32) (kproduct (jX1_size (u.2.1 a.toNatClampNeg)) (jX1_size (u.2.1 b.toNatClampNeg))) (3 : Int32)).1) hx hb hr (fun t9 ht9 hW9 => ⟨⟨(kput ((0 : Int32), u.2.1, u.2.2) r (1 : Int32) (kproduct (jX1_size (u.2.1 a.toNatClampNeg)) (jX1_size (u.2.1 b.toNatClampNeg))) (3 : Int32)).1, (kput ((0 : Int32), u.2.1, u.2.2) r (1 : Int32) (kproduct (jX1_size (u.2.1 a.toNatClampNeg)) (jX1_size (u.2.1 b.toNatClampNeg))) (3 : Int32)).2, rfl, (⟨by rw [kreckon, if_pos c_2, if_neg c_4, if_neg c_6, if_pos c_9, if_pos c_12, if_pos c_13, if_pos c_14, if_neg c_15, if_pos c_29, if_pos c_31], by rw [kreckon, if_pos c_2, if_neg c_4, if_neg c_6, if_pos c_9, if_pos c_12, if_pos c_13, if_pos c_14, if_neg c_15, if_pos c_29, if_pos c_31]⟩), by rw [ht9]; exact hP, va_K.moved hW9.alike hK, hD⟩, hS.F ht9⟩) hS.2.2 dX1_reckon_191 hlocks
                  · refine lv_iconst (v := 1) hx hb dX1_reckon_149 (by decide) ?_
                    refine lv_goto (tgt := 154) hx hb dX1_reckon_150 (by decide) ?_
                    refine lv_icmp_eq (tgt := 161) hx hb dX1_reckon_154 (by decide) (fun c_36 => ?_) (fun c_36 => absurd c_36 (by decide))
                    refine lv_iconst (v := 0) hx hb dX1_reckon_161 (by decide) ?_
                    refine lv_istore (lv' := [(9, .int (0 : Int32)), (7, .long (u.2.1 b.toNatClampNeg)), (5, .long (u.2.1 a.toNatClampNeg)), (0, .ref m0), (1, .int r), (2, .int op), (3, .int a), (4, .int b)]) hx hb dX1_reckon_162 hl (by decide) rfl (fun ls hl => ?_)
                    refine lv_iload_n hx hb dX1_reckon_164 rfl (lv_at hl 5 rfl) ?_
                    refine lv_iconst (v := 2) hx hb dX1_reckon_165 (by decide) ?_
                    refine lv_icmp_ne (tgt := 192) hx hb dX1_reckon_166 (by decide) (fun c_37 => ?_) (fun c_37 => ?_)
                    · exact absurd (Int32.le_antisymm c_13 c_14) c_37
                    · refine lv_aload_n hx hb dX1_reckon_169 rfl (lv_at hl 3 rfl) ?_
                      refine lv_iload_n hx hb dX1_reckon_170 rfl (lv_at hl 4 rfl) ?_
                      refine lv_iload hx hb dX1_reckon_171 (lv_at hl 0 rfl) ?_
                      refine lv_aload_n hx hb dX1_reckon_173 rfl (lv_at hl 3 rfl) ?_
                      refine lv_lload hx hb dX1_reckon_174 (lv_at hl 2 rfl) ?_
                      refine g_callSl S hs (tX1_size l t (u.2.1 a.toNatClampNeg)) ml_X1_39 st_yX1_size in_X1 cd_yX1_size hd_yX1_size ⟨by decide, by decide⟩ hE hS hA hl.1 rfl (Nat.le_of_ble_eq_true rfl) ⟨by decide, by decide⟩ dX1_reckon_176 (fun r_38 hr_38 => ?_)
                      subst hr_38
                      refine lv_lload hx hb dX1_reckon_179 (lv_at hl 1 rfl) ?_
                      refine g_callSl S hs (tX1_size l t (u.2.1 b.toNatClampNeg)) ml_X1_39 st_yX1_size in_X1 cd_yX1_size hd_yX1_size ⟨by decide, by decide⟩ hE hS hA hl.1 rfl (Nat.le_of_ble_eq_true rfl) ⟨by decide, by decide⟩ dX1_reckon_181 (fun r_39 hr_39 => ?_)
                      subst hr_39
                      refine g_callPl S hs (tX1_product l m0 (jX1_size (u.2.1 a.toNatClampNeg)) (jX1_size (u.2.1 b.toNatClampNeg))) (va_recv hK hP (ci := 1) (q0 := 0) rfl rfl) ml_X1_47 im_yX1_product se_yX1_product in_X1 cd_yX1_product hd_yX1_product ⟨by decide, by decide⟩ hl.1 rfl (Nat.le_of_ble_eq_true rfl) ⟨by decide, by decide⟩ dX1_reckon_184 (fun r_40 hr_40 => ?_)
                      subst hr_40
                      refine lv_iconst (v := 3) hx hb dX1_reckon_187 (by decide) ?_
                      refine g_callMl S hs (tX1_put l t D m0 m1 m2 cJ cI ((0 : Int32), u.2.1, u.2.2) r (0 : Int32) (kproduct (jX1_size (u.2.1 a.toNatClampNeg)) (jX1_size (u.2.1 b.toNatClampNeg))) (3 : Int32) (out_in (by assumption))) rfl ml_X1_43 im_yX1_put se_yX1_put cd_yX1_put hd_yX1_put ⟨by decide, by decide⟩ hE hS hA hP hK hD hl.1 rfl (Nat.le_of_ble_eq_true rfl) ⟨by decide, by decide⟩ dX1_reckon_188 (fun r_41 u_41 H locs hr_41 hP hD hS => ?_)
                      obtain ⟨rfl, rfl⟩ := hr_41
                      exact W.lret (v := (kput ((0 : Int32), u.2.1, u.2.2) r (0 : Int32) (kproduct (jX1_size (u.2.1 a.toNatClampNeg)) (jX1_size (u.2.1 b.toNatClampNeg))) (3 : Int32)).1) hx hb hr (fun t9 ht9 hW9 => ⟨⟨(kput ((0 : Int32), u.2.1, u.2.2) r (0 : Int32) (kproduct (jX1_size (u.2.1 a.toNatClampNeg)) (jX1_size (u.2.1 b.toNatClampNeg))) (3 : Int32)).1, (kput ((0 : Int32), u.2.1, u.2.2) r (0 : Int32) (kproduct (jX1_size (u.2.1 a.toNatClampNeg)) (jX1_size (u.2.1 b.toNatClampNeg))) (3 : Int32)).2, rfl, (⟨by rw [kreckon, if_pos c_2, if_neg c_4, if_neg c_6, if_pos c_9, if_pos c_12, if_pos c_13, if_pos c_14, if_neg c_15, if_neg c_29, if_pos c_37], by rw [kreckon, if_pos c_2, if_neg c_4, if_neg c_6, if_pos c_9, if_pos c_12, if_pos c_13, if_pos c_14, if_neg c_15, if_neg c_29, if_pos c_37]⟩), by rw [ht9]; exact hP, va_K.moved hW9.alike hK, hD⟩, hS.F ht9⟩) hS.2.2 dX1_reckon_191 hlocks
              · refine lv_iload_n hx hb dX1_reckon_87 rfl (lv_at hl 4 rfl) ?_
                refine lv_if_ne (tgt := 99) hx hb dX1_reckon_88 (by decide) (fun c_42 => ?_) (fun c_42 => ?_)
                · refine lv_lload hx hb dX1_reckon_99 (lv_at hl 1 rfl) ?_
                  refine lv_lload hx hb dX1_reckon_101 (lv_at hl 0 rfl) ?_
                  refine lv_lsub hx hb dX1_reckon_103 ?_
                  refine lv_lstore (lv' := [(9, .long ((u.2.1 a.toNatClampNeg) - (u.2.1 b.toNatClampNeg))), (7, .long (u.2.1 b.toNatClampNeg)), (5, .long (u.2.1 a.toNatClampNeg)), (0, .ref m0), (1, .int r), (2, .int op), (3, .int a), (4, .int b)]) hx hb dX1_reckon_104 hl (by decide) rfl (fun ls hl => ?_)
                  refine lv_aload_n hx hb dX1_reckon_106 rfl (lv_at hl 3 rfl) ?_
                  refine lv_iload_n hx hb dX1_reckon_107 rfl (lv_at hl 4 rfl) ?_
                  refine lv_lload hx hb dX1_reckon_108 (lv_at hl 0 rfl) ?_
                  refine lv_lconst (v := 0) hx hb dX1_reckon_110 (by decide) ?_
                  refine g_lc_ge (tgt := 119) hx hb dX1_reckon_111 dX1_reckon_112 (by decide) (fun c_43 => ?_) (fun c_43 => ?_)
                  · refine lv_iconst (v := 0) hx hb dX1_reckon_119 (by decide) ?_
                    refine lv_lload hx hb dX1_reckon_120 (lv_at hl 0 rfl) ?_
                    refine g_callSl S hs (tX1_size l t ((u.2.1 a.toNatClampNeg) - (u.2.1 b.toNatClampNeg))) ml_X1_39 st_yX1_size in_X1 cd_yX1_size hd_yX1_size ⟨by decide, by decide⟩ hE hS hA hl.1 rfl (Nat.le_of_ble_eq_true rfl) ⟨by decide, by decide⟩ dX1_reckon_122 (fun r_44 hr_44 => ?_)
                    subst hr_44
                    refine lv_iconst (v := 3) hx hb dX1_reckon_125 (by decide) ?_
                    refine g_callMl S hs (tX1_put l t D m0 m1 m2 cJ cI ((0 : Int32), u.2.1, u.2.2) r (0 : Int32) (jX1_size ((u.2.1 a.toNatClampNeg) - (u.2.1 b.toNatClampNeg))) (3 : Int32) (out_in (by assumption))) rfl ml_X1_43 im_yX1_put se_yX1_put cd_yX1_put hd_yX1_put ⟨by decide, by decide⟩ hE hS hA hP hK hD hl.1 rfl (Nat.le_of_ble_eq_true rfl) ⟨by decide, by decide⟩ dX1_reckon_126 (fun r_45 u_45 H locs hr_45 hP hD hS => ?_)
                    obtain ⟨rfl, rfl⟩ := hr_45
                    exact W.lret (v := (kput ((0 : Int32), u.2.1, u.2.2) r (0 : Int32) (jX1_size ((u.2.1 a.toNatClampNeg) - (u.2.1 b.toNatClampNeg))) (3 : Int32)).1) hx hb hr (fun t9 ht9 hW9 => ⟨⟨(kput ((0 : Int32), u.2.1, u.2.2) r (0 : Int32) (jX1_size ((u.2.1 a.toNatClampNeg) - (u.2.1 b.toNatClampNeg))) (3 : Int32)).1, (kput ((0 : Int32), u.2.1, u.2.2) r (0 : Int32) (jX1_size ((u.2.1 a.toNatClampNeg) - (u.2.1 b.toNatClampNeg))) (3 : Int32)).2, rfl, (⟨by rw [kreckon, if_pos c_2, if_neg c_4, if_neg c_6, if_pos c_9, if_pos c_12, if_pos c_13, if_neg c_14, if_neg c_42, if_pos c_43], by rw [kreckon, if_pos c_2, if_neg c_4, if_neg c_6, if_pos c_9, if_pos c_12, if_pos c_13, if_neg c_14, if_neg c_42, if_pos c_43]⟩), by rw [ht9]; exact hP, va_K.moved hW9.alike hK, hD⟩, hS.F ht9⟩) hS.2.2 dX1_reckon_129 hlocks
                  · refine lv_iconst (v := 1) hx hb dX1_reckon_115 (by decide) ?_
                    refine lv_goto (tgt := 120) hx hb dX1_reckon_116 (by decide) ?_
                    refine lv_lload hx hb dX1_reckon_120 (lv_at hl 0 rfl) ?_
                    refine g_callSl S hs (tX1_size l t ((u.2.1 a.toNatClampNeg) - (u.2.1 b.toNatClampNeg))) ml_X1_39 st_yX1_size in_X1 cd_yX1_size hd_yX1_size ⟨by decide, by decide⟩ hE hS hA hl.1 rfl (Nat.le_of_ble_eq_true rfl) ⟨by decide, by decide⟩ dX1_reckon_122 (fun r_46 hr_46 => ?_)
                    subst hr_46
                    refine lv_iconst (v := 3) hx hb dX1_reckon_125 (by decide) ?_
                    refine g_callMl S hs (tX1_put l t D m0 m1 m2 cJ cI ((0 : Int32), u.2.1, u.2.2) r (1 : Int32) (jX1_size ((u.2.1 a.toNatClampNeg) - (u.2.1 b.toNatClampNeg))) (3 : Int32) (out_in (by assumption))) rfl ml_X1_43 im_yX1_put se_yX1_put cd_yX1_put hd_yX1_put ⟨by decide, by decide⟩ hE hS hA hP hK hD hl.1 rfl (Nat.le_of_ble_eq_true rfl) ⟨by decide, by decide⟩ dX1_reckon_126 (fun r_47 u_47 H locs hr_47 hP hD hS => ?_)
                    obtain ⟨rfl, rfl⟩ := hr_47
                    exact W.lret (v := (kput ((0 : Int32), u.2.1, u.2.2) r (1 : Int32) (jX1_size ((u.2.1 a.toNatClampNeg) - (u.2.1 b.toNatClampNeg))) (3 : Int32)).1) hx hb hr (fun t9 ht9 hW9 => ⟨⟨(kput ((0 : Int32), u.2.1, u.2.2) r (1 : Int32) (jX1_size ((u.2.1 a.toNatClampNeg) - (u.2.1 b.toNatClampNeg))) (3 : Int32)).1, (kput ((0 : Int32), u.2.1, u.2.2) r (1 : Int32) (jX1_size ((u.2.1 a.toNatClampNeg) - (u.2.1 b.toNatClampNeg))) (3 : Int32)).2, rfl, (⟨by rw [kreckon, if_pos c_2, if_neg c_4, if_neg c_6, if_pos c_9, if_pos c_12, if_pos c_13, if_neg c_14, if_neg c_42, if_neg c_43], by rw [kreckon, if_pos c_2, if_neg c_4, if_neg c_6, if_pos c_9, if_pos c_12, if_pos c_13, if_neg c_14, if_neg c_42, if_neg c_43]⟩), by rw [ht9]; exact hP, va_K.moved hW9.alike hK, hD⟩, hS.F ht9⟩) hS.2.2 dX1_reckon_129 hlocks
                · refine lv_lload hx hb dX1_reckon_91 (lv_at hl 1 rfl) ?_
                  refine lv_lload hx hb dX1_reckon_93 (lv_at hl 0 rfl) ?_
                  refine lv_ladd hx hb dX1_reckon_95 ?_
                  refine lv_goto (tgt := 104) hx hb dX1_reckon_96 (by decide) ?_
                  refine lv_lstore (lv' := [(9, .long ((u.2.1 a.toNatClampNeg) + (u.2.1 b.toNatClampNeg))), (7, .long (u.2.1 b.toNatClampNeg)), (5, .long (u.2.1 a.toNatClampNeg)), (0, .ref m0), (1, .int r), (2, .int op), (3, .int a), (4, .int b)]) hx hb dX1_reckon_104 hl (by decide) rfl (fun ls hl => ?_)
                  refine lv_aload_n hx hb dX1_reckon_106 rfl (lv_at hl 3 rfl) ?_
                  refine lv_iload_n hx hb dX1_reckon_107 rfl (lv_at hl 4 rfl) ?_
                  refine lv_lload hx hb dX1_reckon_108 (lv_at hl 0 rfl) ?_
                  refine lv_lconst (v := 0) hx hb dX1_reckon_110 (by decide) ?_
                  refine g_lc_ge (tgt := 119) hx hb dX1_reckon_111 dX1_reckon_112 (by decide) (fun c_48 => ?_) (fun c_48 => ?_)
                  · refine lv_iconst (v := 0) hx hb dX1_reckon_119 (by decide) ?_
                    refine lv_lload hx hb dX1_reckon_120 (lv_at hl 0 rfl) ?_
                    refine g_callSl S hs (tX1_size l t ((u.2.1 a.toNatClampNeg) + (u.2.1 b.toNatClampNeg))) ml_X1_39 st_yX1_size in_X1 cd_yX1_size hd_yX1_size ⟨by decide, by decide⟩ hE hS hA hl.1 rfl (Nat.le_of_ble_eq_true rfl) ⟨by decide, by decide⟩ dX1_reckon_122 (fun r_49 hr_49 => ?_)
                    subst hr_49
                    refine lv_iconst (v := 3) hx hb dX1_reckon_125 (by decide) ?_
                    refine g_callMl S hs (tX1_put l t D m0 m1 m2 cJ cI ((0 : Int32), u.2.1, u.2.2) r (0 : Int32) (jX1_size ((u.2.1 a.toNatClampNeg) + (u.2.1 b.toNatClampNeg))) (3 : Int32) (out_in (by assumption))) rfl ml_X1_43 im_yX1_put se_yX1_put cd_yX1_put hd_yX1_put ⟨by decide, by decide⟩ hE hS hA hP hK hD hl.1 rfl (Nat.le_of_ble_eq_true rfl) ⟨by decide, by decide⟩ dX1_reckon_126 (fun r_50 u_50 H locs hr_50 hP hD hS => ?_)
                    obtain ⟨rfl, rfl⟩ := hr_50
                    exact W.lret (v := (kput ((0 : Int32), u.2.1, u.2.2) r (0 : Int32) (jX1_size ((u.2.1 a.toNatClampNeg) + (u.2.1 b.toNatClampNeg))) (3 : Int32)).1) hx hb hr (fun t9 ht9 hW9 => ⟨⟨(kput ((0 : Int32), u.2.1, u.2.2) r (0 : Int32) (jX1_size ((u.2.1 a.toNatClampNeg) + (u.2.1 b.toNatClampNeg))) (3 : Int32)).1, (kput ((0 : Int32), u.2.1, u.2.2) r (0 : Int32) (jX1_size ((u.2.1 a.toNatClampNeg) + (u.2.1 b.toNatClampNeg))) (3 : Int32)).2, rfl, (⟨by rw [kreckon, if_pos c_2, if_neg c_4, if_neg c_6, if_pos c_9, if_pos c_12, if_pos c_13, if_neg c_14, if_pos c_42, if_pos c_48], by rw [kreckon, if_pos c_2, if_neg c_4, if_neg c_6, if_pos c_9, if_pos c_12, if_pos c_13, if_neg c_14, if_pos c_42, if_pos c_48]⟩), by rw [ht9]; exact hP, va_K.moved hW9.alike hK, hD⟩, hS.F ht9⟩) hS.2.2 dX1_reckon_129 hlocks
                  · refine lv_iconst (v := 1) hx hb dX1_reckon_115 (by decide) ?_
                    refine lv_goto (tgt := 120) hx hb dX1_reckon_116 (by decide) ?_
                    refine lv_lload hx hb dX1_reckon_120 (lv_at hl 0 rfl) ?_
                    refine g_callSl S hs (tX1_size l t ((u.2.1 a.toNatClampNeg) + (u.2.1 b.toNatClampNeg))) ml_X1_39 st_yX1_size in_X1 cd_yX1_size hd_yX1_size ⟨by decide, by decide⟩ hE hS hA hl.1 rfl (Nat.le_of_ble_eq_true rfl) ⟨by decide, by decide⟩ dX1_reckon_122 (fun r_51 hr_51 => ?_)
                    subst hr_51
                    refine lv_iconst (v := 3) hx hb dX1_reckon_125 (by decide) ?_
                    refine g_callMl S hs (tX1_put l t D m0 m1 m2 cJ cI ((0 : Int32), u.2.1, u.2.2) r (1 : Int32) (jX1_size ((u.2.1 a.toNatClampNeg) + (u.2.1 b.toNatClampNeg))) (3 : Int32) (out_in (by assumption))) rfl ml_X1_43 im_yX1_put se_yX1_put cd_yX1_put hd_yX1_put ⟨by decide, by decide⟩ hE hS hA hP hK hD hl.1 rfl (Nat.le_of_ble_eq_true rfl) ⟨by decide, by decide⟩ dX1_reckon_126 (fun r_52 u_52 H locs hr_52 hP hD hS => ?_)
                    obtain ⟨rfl, rfl⟩ := hr_52
                    exact W.lret (v := (kput ((0 : Int32), u.2.1, u.2.2) r (1 : Int32) (jX1_size ((u.2.1 a.toNatClampNeg) + (u.2.1 b.toNatClampNeg))) (3 : Int32)).1) hx hb hr (fun t9 ht9 hW9 => ⟨⟨(kput ((0 : Int32), u.2.1, u.2.2) r (1 : Int32) (jX1_size ((u.2.1 a.toNatClampNeg) + (u.2.1 b.toNatClampNeg))) (3 : Int32)).1, (kput ((0 : Int32), u.2.1, u.2.2) r (1 : Int32) (jX1_size ((u.2.1 a.toNatClampNeg) + (u.2.1 b.toNatClampNeg))) (3 : Int32)).2, rfl, (⟨by rw [kreckon, if_pos c_2, if_neg c_4, if_neg c_6, if_pos c_9, if_pos c_12, if_pos c_13, if_neg c_14, if_pos c_42, if_neg c_48], by rw [kreckon, if_pos c_2, if_neg c_4, if_neg c_6, if_pos c_9, if_pos c_12, if_pos c_13, if_neg c_14, if_pos c_42, if_neg c_48]⟩), by rw [ht9]; exact hP, va_K.moved hW9.alike hK, hD⟩, hS.F ht9⟩) hS.2.2 dX1_reckon_129 hlocks
            · refine lv_lload hx hb dX1_reckon_68 (lv_at hl 0 rfl) ?_
              refine lv_lconst (v := 0) hx hb dX1_reckon_70 (by decide) ?_
              refine g_lc_ne (tgt := 82) hx hb dX1_reckon_71 dX1_reckon_72 (by decide) (fun c_53 => ?_) (fun c_53 => ?_)
              · refine lv_iload_n hx hb dX1_reckon_82 rfl (lv_at hl 4 rfl) ?_
                refine lv_iconst (v := 2) hx hb dX1_reckon_83 (by decide) ?_
                refine lv_icmp_ge (tgt := 130) hx hb dX1_reckon_84 (by decide) (fun c_54 => ?_) (fun c_54 => ?_)
                · refine lv_lload hx hb dX1_reckon_130 (lv_at hl 1 rfl) ?_
                  refine lv_lconst (v := 0) hx hb dX1_reckon_132 (by decide) ?_
                  refine g_lc_ge (tgt := 141) hx hb dX1_reckon_133 dX1_reckon_134 (by decide) (fun c_55 => ?_) (fun c_55 => ?_)
                  · refine lv_iconst (v := 0) hx hb dX1_reckon_141 (by decide) ?_
                    refine lv_lload hx hb dX1_reckon_142 (lv_at hl 0 rfl) ?_
                    refine lv_lconst (v := 0) hx hb dX1_reckon_144 (by decide) ?_
                    refine g_lc_ge (tgt := 153) hx hb dX1_reckon_145 dX1_reckon_146 (by decide) (fun c_56 => ?_) (fun c_56 => ?_)
                    · refine lv_iconst (v := 0) hx hb dX1_reckon_153 (by decide) ?_
                      refine lv_icmp_eq (tgt := 161) hx hb dX1_reckon_154 (by decide) (fun c_57 => ?_) (fun c_57 => absurd c_57 (by decide))
                      refine lv_iconst (v := 0) hx hb dX1_reckon_161 (by decide) ?_
                      refine lv_istore (lv' := [(9, .int (0 : Int32)), (7, .long (u.2.1 b.toNatClampNeg)), (5, .long (u.2.1 a.toNatClampNeg)), (0, .ref m0), (1, .int r), (2, .int op), (3, .int a), (4, .int b)]) hx hb dX1_reckon_162 hl (by decide) rfl (fun ls hl => ?_)
                      refine lv_iload_n hx hb dX1_reckon_164 rfl (lv_at hl 5 rfl) ?_
                      refine lv_iconst (v := 2) hx hb dX1_reckon_165 (by decide) ?_
                      refine lv_icmp_ne (tgt := 192) hx hb dX1_reckon_166 (by decide) (fun c_58 => ?_) (fun c_58 => ?_)
                      · refine lv_iload_n hx hb dX1_reckon_192 rfl (lv_at hl 5 rfl) ?_
                        refine lv_iconst (v := 3) hx hb dX1_reckon_193 (by decide) ?_
                        refine lv_icmp_ne (tgt := 220) hx hb dX1_reckon_194 (by decide) (fun c_59 => ?_) (fun c_59 => ?_)
                        · refine lv_lload hx hb dX1_reckon_220 (lv_at hl 2 rfl) ?_
                          refine g_callSl S hs (tX1_size l t (u.2.1 a.toNatClampNeg)) ml_X1_39 st_yX1_size in_X1 cd_yX1_size hd_yX1_size ⟨by decide, by decide⟩ hE hS hA hl.1 rfl (Nat.le_of_ble_eq_true rfl) ⟨by decide, by decide⟩ dX1_reckon_222 (fun r_60 hr_60 => ?_)
                          subst hr_60
                          refine lv_lload hx hb dX1_reckon_225 (lv_at hl 1 rfl) ?_
                          refine g_callSl S hs (tX1_size l t (u.2.1 b.toNatClampNeg)) ml_X1_39 st_yX1_size in_X1 cd_yX1_size hd_yX1_size ⟨by decide, by decide⟩ hE hS hA hl.1 rfl (Nat.le_of_ble_eq_true rfl) ⟨by decide, by decide⟩ dX1_reckon_227 (fun r_61 hr_61 => ?_)
                          subst hr_61
                          refine lv_lrem hx hb dX1_reckon_230 (ksize_ne (by assumption)) ?_
                          refine lv_lstore (lv' := [(10, .long ((jX1_size (u.2.1 a.toNatClampNeg)) - (jX1_size (u.2.1 a.toNatClampNeg)) / (jX1_size (u.2.1 b.toNatClampNeg)) * (jX1_size (u.2.1 b.toNatClampNeg)))), (9, .int (0 : Int32)), (7, .long (u.2.1 b.toNatClampNeg)), (5, .long (u.2.1 a.toNatClampNeg)), (0, .ref m0), (1, .int r), (2, .int op), (3, .int a), (4, .int b)]) hx hb dX1_reckon_231 hl (by decide) rfl (fun ls hl => ?_)
                          refine lv_lload hx hb dX1_reckon_233 (lv_at hl 0 rfl) ?_
                          refine lv_lconst (v := 0) hx hb dX1_reckon_235 (by decide) ?_
                          refine g_lc_le (tgt := 255) hx hb dX1_reckon_236 dX1_reckon_237 (by decide) (fun c_62 => ?_) (fun c_62 => ?_)
                          · refine lv_aload_n hx hb dX1_reckon_255 rfl (lv_at hl 4 rfl) ?_
                            refine lv_iload_n hx hb dX1_reckon_256 rfl (lv_at hl 5 rfl) ?_
                            refine lv_lload hx hb dX1_reckon_257 (lv_at hl 2 rfl) ?_
                            refine lv_lconst (v := 0) hx hb dX1_reckon_259 (by decide) ?_
                            refine g_lc_ge (tgt := 268) hx hb dX1_reckon_260 dX1_reckon_261 (by decide) (fun c_63 => ?_) (fun c_63 => absurd (c_56) c_63)
                            refine lv_iconst (v := 0) hx hb dX1_reckon_268 (by decide) ?_
                            refine lv_lload hx hb dX1_reckon_269 (lv_at hl 0 rfl) ?_
                            refine lv_iconst (v := 3) hx hb dX1_reckon_271 (by decide) ?_
                            refine g_callMl S hs (tX1_put l t D m0 m1 m2 cJ cI ((0 : Int32), u.2.1, u.2.2) r (0 : Int32) ((jX1_size (u.2.1 a.toNatClampNeg)) - (jX1_size (u.2.1 a.toNatClampNeg)) / (jX1_size (u.2.1 b.toNatClampNeg)) * (jX1_size (u.2.1 b.toNatClampNeg))) (3 : Int32) (out_in (by assumption))) rfl ml_X1_43 im_yX1_put se_yX1_put cd_yX1_put hd_yX1_put ⟨by decide, by decide⟩ hE hS hA hP hK hD hl.1 rfl (Nat.le_of_ble_eq_true rfl) ⟨by decide, by decide⟩ dX1_reckon_272 (fun r_64 u_64 H locs hr_64 hP hD hS => ?_)
                            obtain ⟨rfl, rfl⟩ := hr_64
                            exact W.lret (v := (kput ((0 : Int32), u.2.1, u.2.2) r (0 : Int32) ((jX1_size (u.2.1 a.toNatClampNeg)) - (jX1_size (u.2.1 a.toNatClampNeg)) / (jX1_size (u.2.1 b.toNatClampNeg)) * (jX1_size (u.2.1 b.toNatClampNeg))) (3 : Int32)).1) hx hb hr (fun t9 ht9 hW9 => ⟨⟨(kput ((0 : Int32), u.2.1, u.2.2) r (0 : Int32) ((jX1_size (u.2.1 a.toNatClampNeg)) - (jX1_size (u.2.1 a.toNatClampNeg)) / (jX1_size (u.2.1 b.toNatClampNeg)) * (jX1_size (u.2.1 b.toNatClampNeg))) (3 : Int32)).1, (kput ((0 : Int32), u.2.1, u.2.2) r (0 : Int32) ((jX1_size (u.2.1 a.toNatClampNeg)) - (jX1_size (u.2.1 a.toNatClampNeg)) / (jX1_size (u.2.1 b.toNatClampNeg)) * (jX1_size (u.2.1 b.toNatClampNeg))) (3 : Int32)).2, rfl, (⟨by rw [kreckon, if_pos c_2, if_neg c_4, if_neg c_6, if_pos c_9, if_pos c_12, if_neg c_13, if_neg c_53, if_pos c_54, if_pos c_55, if_pos c_56, if_neg c_58, if_neg c_59, if_pos c_62], by rw [kreckon, if_pos c_2, if_neg c_4, if_neg c_6, if_pos c_9, if_pos c_12, if_neg c_13, if_neg c_53, if_pos c_54, if_pos c_55, if_pos c_56, if_neg c_58, if_neg c_59, if_pos c_62]⟩), by rw [ht9]; exact hP, va_K.moved hW9.alike hK, hD⟩, hS.F ht9⟩) hS.2.2 dX1_reckon_275 hlocks
                          · refine lv_iload hx hb dX1_reckon_240 (lv_at hl 1 rfl) ?_
                            refine lv_if_eq (tgt := 255) hx hb dX1_reckon_242 (by decide) (fun c_65 => ?_) (fun c_65 => absurd c_65 (by decide))
                            refine lv_aload_n hx hb dX1_reckon_255 rfl (lv_at hl 4 rfl) ?_
                            refine lv_iload_n hx hb dX1_reckon_256 rfl (lv_at hl 5 rfl) ?_
                            refine lv_lload hx hb dX1_reckon_257 (lv_at hl 2 rfl) ?_
                            refine lv_lconst (v := 0) hx hb dX1_reckon_259 (by decide) ?_
                            refine g_lc_ge (tgt := 268) hx hb dX1_reckon_260 dX1_reckon_261 (by decide) (fun c_66 => ?_) (fun c_66 => absurd (c_56) c_66)
                            refine lv_iconst (v := 0) hx hb dX1_reckon_268 (by decide) ?_
                            refine lv_lload hx hb dX1_reckon_269 (lv_at hl 0 rfl) ?_
                            refine lv_iconst (v := 3) hx hb dX1_reckon_271 (by decide) ?_
                            refine g_callMl S hs (tX1_put l t D m0 m1 m2 cJ cI ((0 : Int32), u.2.1, u.2.2) r (0 : Int32) ((jX1_size (u.2.1 a.toNatClampNeg)) - (jX1_size (u.2.1 a.toNatClampNeg)) / (jX1_size (u.2.1 b.toNatClampNeg)) * (jX1_size (u.2.1 b.toNatClampNeg))) (3 : Int32) (out_in (by assumption))) rfl ml_X1_43 im_yX1_put se_yX1_put cd_yX1_put hd_yX1_put ⟨by decide, by decide⟩ hE hS hA hP hK hD hl.1 rfl (Nat.le_of_ble_eq_true rfl) ⟨by decide, by decide⟩ dX1_reckon_272 (fun r_67 u_67 H locs hr_67 hP hD hS => ?_)
                            obtain ⟨rfl, rfl⟩ := hr_67
                            exact W.lret (v := (kput ((0 : Int32), u.2.1, u.2.2) r (0 : Int32) ((jX1_size (u.2.1 a.toNatClampNeg)) - (jX1_size (u.2.1 a.toNatClampNeg)) / (jX1_size (u.2.1 b.toNatClampNeg)) * (jX1_size (u.2.1 b.toNatClampNeg))) (3 : Int32)).1) hx hb hr (fun t9 ht9 hW9 => ⟨⟨(kput ((0 : Int32), u.2.1, u.2.2) r (0 : Int32) ((jX1_size (u.2.1 a.toNatClampNeg)) - (jX1_size (u.2.1 a.toNatClampNeg)) / (jX1_size (u.2.1 b.toNatClampNeg)) * (jX1_size (u.2.1 b.toNatClampNeg))) (3 : Int32)).1, (kput ((0 : Int32), u.2.1, u.2.2) r (0 : Int32) ((jX1_size (u.2.1 a.toNatClampNeg)) - (jX1_size (u.2.1 a.toNatClampNeg)) / (jX1_size (u.2.1 b.toNatClampNeg)) * (jX1_size (u.2.1 b.toNatClampNeg))) (3 : Int32)).2, rfl, (⟨by rw [kreckon, if_pos c_2, if_neg c_4, if_neg c_6, if_pos c_9, if_pos c_12, if_neg c_13, if_neg c_53, if_pos c_54, if_pos c_55, if_pos c_56, if_neg c_58, if_neg c_59, if_neg c_62], by rw [kreckon, if_pos c_2, if_neg c_4, if_neg c_6, if_pos c_9, if_pos c_12, if_neg c_13, if_neg c_53, if_pos c_54, if_pos c_55, if_pos c_56, if_neg c_58, if_neg c_59, if_neg c_62]⟩), by rw [ht9]; exact hP, va_K.moved hW9.alike hK, hD⟩, hS.F ht9⟩) hS.2.2 dX1_reckon_275 hlocks
                        · refine lv_aload_n hx hb dX1_reckon_197 rfl (lv_at hl 3 rfl) ?_
                          refine lv_iload_n hx hb dX1_reckon_198 rfl (lv_at hl 4 rfl) ?_
                          refine lv_iload hx hb dX1_reckon_199 (lv_at hl 0 rfl) ?_
                          refine lv_aload_n hx hb dX1_reckon_201 rfl (lv_at hl 3 rfl) ?_
                          refine lv_lload hx hb dX1_reckon_202 (lv_at hl 2 rfl) ?_
                          refine g_callSl S hs (tX1_size l t (u.2.1 a.toNatClampNeg)) ml_X1_39 st_yX1_size in_X1 cd_yX1_size hd_yX1_size ⟨by decide, by decide⟩ hE hS hA hl.1 rfl (Nat.le_of_ble_eq_true rfl) ⟨by decide, by decide⟩ dX1_reckon_204 (fun r_68 hr_68 => ?_)
                          subst hr_68
                          refine lv_lload hx hb dX1_reckon_207 (lv_at hl 1 rfl) ?_
                          refine g_callSl S hs (tX1_size l t (u.2.1 b.toNatClampNeg)) ml_X1_39 st_yX1_size in_X1 cd_yX1_size hd_yX1_size ⟨by decide, by decide⟩ hE hS hA hl.1 rfl (Nat.le_of_ble_eq_true rfl) ⟨by decide, by decide⟩ dX1_reckon_209 (fun r_69 hr_69 => ?_)
                          subst hr_69
                          refine g_callPl S hs (tX1_quotient l m0 (jX1_size (u.2.1 a.toNatClampNeg)) (jX1_size (u.2.1 b.toNatClampNeg)) (ksize_ne (by assumption))) (va_recv hK hP (ci := 1) (q0 := 0) rfl rfl) ml_X1_51 im_yX1_quotient se_yX1_quotient in_X1 cd_yX1_quotient hd_yX1_quotient ⟨by decide, by decide⟩ hl.1 rfl (Nat.le_of_ble_eq_true rfl) ⟨by decide, by decide⟩ dX1_reckon_212 (fun r_70 hr_70 => ?_)
                          subst hr_70
                          refine lv_iconst (v := 3) hx hb dX1_reckon_215 (by decide) ?_
                          refine g_callMl S hs (tX1_put l t D m0 m1 m2 cJ cI ((0 : Int32), u.2.1, u.2.2) r (0 : Int32) (kquotient (jX1_size (u.2.1 a.toNatClampNeg)) (jX1_size (u.2.1 b.toNatClampNeg))) (3 : Int32) (out_in (by assumption))) rfl ml_X1_43 im_yX1_put se_yX1_put cd_yX1_put hd_yX1_put ⟨by decide, by decide⟩ hE hS hA hP hK hD hl.1 rfl (Nat.le_of_ble_eq_true rfl) ⟨by decide, by decide⟩ dX1_reckon_216 (fun r_71 u_71 H locs hr_71 hP hD hS => ?_)
                          obtain ⟨rfl, rfl⟩ := hr_71
                          exact W.lret (v := (kput ((0 : Int32), u.2.1, u.2.2) r (0 : Int32) (kquotient (jX1_size (u.2.1 a.toNatClampNeg)) (jX1_size (u.2.1 b.toNatClampNeg))) (3 : Int32)).1) hx hb hr (fun t9 ht9 hW9 => ⟨⟨(kput ((0 : Int32), u.2.1, u.2.2) r (0 : Int32) (kquotient (jX1_size (u.2.1 a.toNatClampNeg)) (jX1_size (u.2.1 b.toNatClampNeg))) (3 : Int32)).1, (kput ((0 : Int32), u.2.1, u.2.2) r (0 : Int32) (kquotient (jX1_size (u.2.1 a.toNatClampNeg)) (jX1_size (u.2.1 b.toNatClampNeg))) (3 : Int32)).2, rfl, (⟨by rw [kreckon, if_pos c_2, if_neg c_4, if_neg c_6, if_pos c_9, if_pos c_12, if_neg c_13, if_neg c_53, if_pos c_54, if_pos c_55, if_pos c_56, if_neg c_58, if_pos c_59], by rw [kreckon, if_pos c_2, if_neg c_4, if_neg c_6, if_pos c_9, if_pos c_12, if_neg c_13, if_neg c_53, if_pos c_54, if_pos c_55, if_pos c_56, if_neg c_58, if_pos c_59]⟩), by rw [ht9]; exact hP, va_K.moved hW9.alike hK, hD⟩, hS.F ht9⟩) hS.2.2 dX1_reckon_219 hlocks
                      · refine lv_aload_n hx hb dX1_reckon_169 rfl (lv_at hl 3 rfl) ?_
                        refine lv_iload_n hx hb dX1_reckon_170 rfl (lv_at hl 4 rfl) ?_
                        refine lv_iload hx hb dX1_reckon_171 (lv_at hl 0 rfl) ?_
                        refine lv_aload_n hx hb dX1_reckon_173 rfl (lv_at hl 3 rfl) ?_
                        refine lv_lload hx hb dX1_reckon_174 (lv_at hl 2 rfl) ?_
                        refine g_callSl S hs (tX1_size l t (u.2.1 a.toNatClampNeg)) ml_X1_39 st_yX1_size in_X1 cd_yX1_size hd_yX1_size ⟨by decide, by decide⟩ hE hS hA hl.1 rfl (Nat.le_of_ble_eq_true rfl) ⟨by decide, by decide⟩ dX1_reckon_176 (fun r_72 hr_72 => ?_)
                        subst hr_72
                        refine lv_lload hx hb dX1_reckon_179 (lv_at hl 1 rfl) ?_
                        refine g_callSl S hs (tX1_size l t (u.2.1 b.toNatClampNeg)) ml_X1_39 st_yX1_size in_X1 cd_yX1_size hd_yX1_size ⟨by decide, by decide⟩ hE hS hA hl.1 rfl (Nat.le_of_ble_eq_true rfl) ⟨by decide, by decide⟩ dX1_reckon_181 (fun r_73 hr_73 => ?_)
                        subst hr_73
                        refine g_callPl S hs (tX1_product l m0 (jX1_size (u.2.1 a.toNatClampNeg)) (jX1_size (u.2.1 b.toNatClampNeg))) (va_recv hK hP (ci := 1) (q0 := 0) rfl rfl) ml_X1_47 im_yX1_product se_yX1_product in_X1 cd_yX1_product hd_yX1_product ⟨by decide, by decide⟩ hl.1 rfl (Nat.le_of_ble_eq_true rfl) ⟨by decide, by decide⟩ dX1_reckon_184 (fun r_74 hr_74 => ?_)
                        subst hr_74
                        refine lv_iconst (v := 3) hx hb dX1_reckon_187 (by decide) ?_
                        refine g_callMl S hs (tX1_put l t D m0 m1 m2 cJ cI ((0 : Int32), u.2.1, u.2.2) r (0 : Int32) (kproduct (jX1_size (u.2.1 a.toNatClampNeg)) (jX1_size (u.2.1 b.toNatClampNeg))) (3 : Int32) (out_in (by assumption))) rfl ml_X1_43 im_yX1_put se_yX1_put cd_yX1_put hd_yX1_put ⟨by decide, by decide⟩ hE hS hA hP hK hD hl.1 rfl (Nat.le_of_ble_eq_true rfl) ⟨by decide, by decide⟩ dX1_reckon_188 (fun r_75 u_75 H locs hr_75 hP hD hS => ?_)
                        obtain ⟨rfl, rfl⟩ := hr_75
                        exact W.lret (v := (kput ((0 : Int32), u.2.1, u.2.2) r (0 : Int32) (kproduct (jX1_size (u.2.1 a.toNatClampNeg)) (jX1_size (u.2.1 b.toNatClampNeg))) (3 : Int32)).1) hx hb hr (fun t9 ht9 hW9 => ⟨⟨(kput ((0 : Int32), u.2.1, u.2.2) r (0 : Int32) (kproduct (jX1_size (u.2.1 a.toNatClampNeg)) (jX1_size (u.2.1 b.toNatClampNeg))) (3 : Int32)).1, (kput ((0 : Int32), u.2.1, u.2.2) r (0 : Int32) (kproduct (jX1_size (u.2.1 a.toNatClampNeg)) (jX1_size (u.2.1 b.toNatClampNeg))) (3 : Int32)).2, rfl, (⟨by rw [kreckon, if_pos c_2, if_neg c_4, if_neg c_6, if_pos c_9, if_pos c_12, if_neg c_13, if_neg c_53, if_pos c_54, if_pos c_55, if_pos c_56, if_pos c_58], by rw [kreckon, if_pos c_2, if_neg c_4, if_neg c_6, if_pos c_9, if_pos c_12, if_neg c_13, if_neg c_53, if_pos c_54, if_pos c_55, if_pos c_56, if_pos c_58]⟩), by rw [ht9]; exact hP, va_K.moved hW9.alike hK, hD⟩, hS.F ht9⟩) hS.2.2 dX1_reckon_191 hlocks
                    · refine lv_iconst (v := 1) hx hb dX1_reckon_149 (by decide) ?_
                      refine lv_goto (tgt := 154) hx hb dX1_reckon_150 (by decide) ?_
                      refine lv_icmp_eq (tgt := 161) hx hb dX1_reckon_154 (by decide) (fun c_76 => absurd c_76 (by decide)) (fun c_76 => ?_)
                      refine lv_iconst (v := 1) hx hb dX1_reckon_157 (by decide) ?_
                      refine lv_goto (tgt := 162) hx hb dX1_reckon_158 (by decide) ?_
                      refine lv_istore (lv' := [(9, .int (1 : Int32)), (7, .long (u.2.1 b.toNatClampNeg)), (5, .long (u.2.1 a.toNatClampNeg)), (0, .ref m0), (1, .int r), (2, .int op), (3, .int a), (4, .int b)]) hx hb dX1_reckon_162 hl (by decide) rfl (fun ls hl => ?_)
                      refine lv_iload_n hx hb dX1_reckon_164 rfl (lv_at hl 5 rfl) ?_
                      refine lv_iconst (v := 2) hx hb dX1_reckon_165 (by decide) ?_
                      refine lv_icmp_ne (tgt := 192) hx hb dX1_reckon_166 (by decide) (fun c_77 => ?_) (fun c_77 => ?_)
                      · refine lv_iload_n hx hb dX1_reckon_192 rfl (lv_at hl 5 rfl) ?_
                        refine lv_iconst (v := 3) hx hb dX1_reckon_193 (by decide) ?_
                        refine lv_icmp_ne (tgt := 220) hx hb dX1_reckon_194 (by decide) (fun c_78 => ?_) (fun c_78 => ?_)
                        · refine lv_lload hx hb dX1_reckon_220 (lv_at hl 2 rfl) ?_
                          refine g_callSl S hs (tX1_size l t (u.2.1 a.toNatClampNeg)) ml_X1_39 st_yX1_size in_X1 cd_yX1_size hd_yX1_size ⟨by decide, by decide⟩ hE hS hA hl.1 rfl (Nat.le_of_ble_eq_true rfl) ⟨by decide, by decide⟩ dX1_reckon_222 (fun r_79 hr_79 => ?_)
                          subst hr_79
                          refine lv_lload hx hb dX1_reckon_225 (lv_at hl 1 rfl) ?_
                          refine g_callSl S hs (tX1_size l t (u.2.1 b.toNatClampNeg)) ml_X1_39 st_yX1_size in_X1 cd_yX1_size hd_yX1_size ⟨by decide, by decide⟩ hE hS hA hl.1 rfl (Nat.le_of_ble_eq_true rfl) ⟨by decide, by decide⟩ dX1_reckon_227 (fun r_80 hr_80 => ?_)
                          subst hr_80
                          refine lv_lrem hx hb dX1_reckon_230 (ksize_ne (by assumption)) ?_
                          refine lv_lstore (lv' := [(10, .long ((jX1_size (u.2.1 a.toNatClampNeg)) - (jX1_size (u.2.1 a.toNatClampNeg)) / (jX1_size (u.2.1 b.toNatClampNeg)) * (jX1_size (u.2.1 b.toNatClampNeg)))), (9, .int (1 : Int32)), (7, .long (u.2.1 b.toNatClampNeg)), (5, .long (u.2.1 a.toNatClampNeg)), (0, .ref m0), (1, .int r), (2, .int op), (3, .int a), (4, .int b)]) hx hb dX1_reckon_231 hl (by decide) rfl (fun ls hl => ?_)
                          refine lv_lload hx hb dX1_reckon_233 (lv_at hl 0 rfl) ?_
                          refine lv_lconst (v := 0) hx hb dX1_reckon_235 (by decide) ?_
                          refine g_lc_le (tgt := 255) hx hb dX1_reckon_236 dX1_reckon_237 (by decide) (fun c_81 => ?_) (fun c_81 => ?_)
                          · refine lv_aload_n hx hb dX1_reckon_255 rfl (lv_at hl 4 rfl) ?_
                            refine lv_iload_n hx hb dX1_reckon_256 rfl (lv_at hl 5 rfl) ?_
                            refine lv_lload hx hb dX1_reckon_257 (lv_at hl 2 rfl) ?_
                            refine lv_lconst (v := 0) hx hb dX1_reckon_259 (by decide) ?_
                            refine g_lc_ge (tgt := 268) hx hb dX1_reckon_260 dX1_reckon_261 (by decide) (fun c_82 => absurd c_82 c_56) (fun c_82 => ?_)
                            refine lv_iconst (v := 1) hx hb dX1_reckon_264 (by decide) ?_
                            refine lv_goto (tgt := 269) hx hb dX1_reckon_265 (by decide) ?_
                            refine lv_lload hx hb dX1_reckon_269 (lv_at hl 0 rfl) ?_
                            refine lv_iconst (v := 3) hx hb dX1_reckon_271 (by decide) ?_
                            refine g_callMl S hs (tX1_put l t D m0 m1 m2 cJ cI ((0 : Int32), u.2.1, u.2.2) r (1 : Int32) ((jX1_size (u.2.1 a.toNatClampNeg)) - (jX1_size (u.2.1 a.toNatClampNeg)) / (jX1_size (u.2.1 b.toNatClampNeg)) * (jX1_size (u.2.1 b.toNatClampNeg))) (3 : Int32) (out_in (by assumption))) rfl ml_X1_43 im_yX1_put se_yX1_put cd_yX1_put hd_yX1_put ⟨by decide, by decide⟩ hE hS hA hP hK hD hl.1 rfl (Nat.le_of_ble_eq_true rfl) ⟨by decide, by decide⟩ dX1_reckon_272 (fun r_83 u_83 H locs hr_83 hP hD hS => ?_)
                            obtain ⟨rfl, rfl⟩ := hr_83
                            exact W.lret (v := (kput ((0 : Int32), u.2.1, u.2.2) r (1 : Int32) ((jX1_size (u.2.1 a.toNatClampNeg)) - (jX1_size (u.2.1 a.toNatClampNeg)) / (jX1_size (u.2.1 b.toNatClampNeg)) * (jX1_size (u.2.1 b.toNatClampNeg))) (3 : Int32)).1) hx hb hr (fun t9 ht9 hW9 => ⟨⟨(kput ((0 : Int32), u.2.1, u.2.2) r (1 : Int32) ((jX1_size (u.2.1 a.toNatClampNeg)) - (jX1_size (u.2.1 a.toNatClampNeg)) / (jX1_size (u.2.1 b.toNatClampNeg)) * (jX1_size (u.2.1 b.toNatClampNeg))) (3 : Int32)).1, (kput ((0 : Int32), u.2.1, u.2.2) r (1 : Int32) ((jX1_size (u.2.1 a.toNatClampNeg)) - (jX1_size (u.2.1 a.toNatClampNeg)) / (jX1_size (u.2.1 b.toNatClampNeg)) * (jX1_size (u.2.1 b.toNatClampNeg))) (3 : Int32)).2, rfl, (⟨by rw [kreckon, if_pos c_2, if_neg c_4, if_neg c_6, if_pos c_9, if_pos c_12, if_neg c_13, if_neg c_53, if_pos c_54, if_pos c_55, if_neg c_56, if_neg c_77, if_neg c_78, if_pos c_81], by rw [kreckon, if_pos c_2, if_neg c_4, if_neg c_6, if_pos c_9, if_pos c_12, if_neg c_13, if_neg c_53, if_pos c_54, if_pos c_55, if_neg c_56, if_neg c_77, if_neg c_78, if_pos c_81]⟩), by rw [ht9]; exact hP, va_K.moved hW9.alike hK, hD⟩, hS.F ht9⟩) hS.2.2 dX1_reckon_275 hlocks
                          · refine lv_iload hx hb dX1_reckon_240 (lv_at hl 1 rfl) ?_
                            refine lv_if_eq (tgt := 255) hx hb dX1_reckon_242 (by decide) (fun c_84 => absurd c_84 (by decide)) (fun c_84 => ?_)
                            refine lv_lload hx hb dX1_reckon_245 (lv_at hl 2 rfl) ?_
                            refine g_callSl S hs (tX1_size l t (u.2.1 b.toNatClampNeg)) ml_X1_39 st_yX1_size in_X1 cd_yX1_size hd_yX1_size ⟨by decide, by decide⟩ hE hS hA hl.1 rfl (Nat.le_of_ble_eq_true rfl) ⟨by decide, by decide⟩ dX1_reckon_247 (fun r_85 hr_85 => ?_)
                            subst hr_85
                            refine lv_lload hx hb dX1_reckon_250 (lv_at hl 0 rfl) ?_
                            refine lv_lsub hx hb dX1_reckon_252 ?_
                            refine lv_lstore (lv' := [(10, .long ((jX1_size (u.2.1 b.toNatClampNeg)) - ((jX1_size (u.2.1 a.toNatClampNeg)) - (jX1_size (u.2.1 a.toNatClampNeg)) / (jX1_size (u.2.1 b.toNatClampNeg)) * (jX1_size (u.2.1 b.toNatClampNeg))))), (9, .int (1 : Int32)), (7, .long (u.2.1 b.toNatClampNeg)), (5, .long (u.2.1 a.toNatClampNeg)), (0, .ref m0), (1, .int r), (2, .int op), (3, .int a), (4, .int b)]) hx hb dX1_reckon_253 hl (by decide) rfl (fun ls hl => ?_)
                            refine lv_aload_n hx hb dX1_reckon_255 rfl (lv_at hl 4 rfl) ?_
                            refine lv_iload_n hx hb dX1_reckon_256 rfl (lv_at hl 5 rfl) ?_
                            refine lv_lload hx hb dX1_reckon_257 (lv_at hl 2 rfl) ?_
                            refine lv_lconst (v := 0) hx hb dX1_reckon_259 (by decide) ?_
                            refine g_lc_ge (tgt := 268) hx hb dX1_reckon_260 dX1_reckon_261 (by decide) (fun c_86 => absurd c_86 c_56) (fun c_86 => ?_)
                            refine lv_iconst (v := 1) hx hb dX1_reckon_264 (by decide) ?_
                            refine lv_goto (tgt := 269) hx hb dX1_reckon_265 (by decide) ?_
                            refine lv_lload hx hb dX1_reckon_269 (lv_at hl 0 rfl) ?_
                            refine lv_iconst (v := 3) hx hb dX1_reckon_271 (by decide) ?_
                            refine g_callMl S hs (tX1_put l t D m0 m1 m2 cJ cI ((0 : Int32), u.2.1, u.2.2) r (1 : Int32) ((jX1_size (u.2.1 b.toNatClampNeg)) - ((jX1_size (u.2.1 a.toNatClampNeg)) - (jX1_size (u.2.1 a.toNatClampNeg)) / (jX1_size (u.2.1 b.toNatClampNeg)) * (jX1_size (u.2.1 b.toNatClampNeg)))) (3 : Int32) (out_in (by assumption))) rfl ml_X1_43 im_yX1_put se_yX1_put cd_yX1_put hd_yX1_put ⟨by decide, by decide⟩ hE hS hA hP hK hD hl.1 rfl (Nat.le_of_ble_eq_true rfl) ⟨by decide, by decide⟩ dX1_reckon_272 (fun r_87 u_87 H locs hr_87 hP hD hS => ?_)
                            obtain ⟨rfl, rfl⟩ := hr_87
                            exact W.lret (v := (kput ((0 : Int32), u.2.1, u.2.2) r (1 : Int32) ((jX1_size (u.2.1 b.toNatClampNeg)) - ((jX1_size (u.2.1 a.toNatClampNeg)) - (jX1_size (u.2.1 a.toNatClampNeg)) / (jX1_size (u.2.1 b.toNatClampNeg)) * (jX1_size (u.2.1 b.toNatClampNeg)))) (3 : Int32)).1) hx hb hr (fun t9 ht9 hW9 => ⟨⟨(kput ((0 : Int32), u.2.1, u.2.2) r (1 : Int32) ((jX1_size (u.2.1 b.toNatClampNeg)) - ((jX1_size (u.2.1 a.toNatClampNeg)) - (jX1_size (u.2.1 a.toNatClampNeg)) / (jX1_size (u.2.1 b.toNatClampNeg)) * (jX1_size (u.2.1 b.toNatClampNeg)))) (3 : Int32)).1, (kput ((0 : Int32), u.2.1, u.2.2) r (1 : Int32) ((jX1_size (u.2.1 b.toNatClampNeg)) - ((jX1_size (u.2.1 a.toNatClampNeg)) - (jX1_size (u.2.1 a.toNatClampNeg)) / (jX1_size (u.2.1 b.toNatClampNeg)) * (jX1_size (u.2.1 b.toNatClampNeg)))) (3 : Int32)).2, rfl, (⟨by rw [kreckon, if_pos c_2, if_neg c_4, if_neg c_6, if_pos c_9, if_pos c_12, if_neg c_13, if_neg c_53, if_pos c_54, if_pos c_55, if_neg c_56, if_neg c_77, if_neg c_78, if_neg c_81], by rw [kreckon, if_pos c_2, if_neg c_4, if_neg c_6, if_pos c_9, if_pos c_12, if_neg c_13, if_neg c_53, if_pos c_54, if_pos c_55, if_neg c_56, if_neg c_77, if_neg c_78, if_neg c_81]⟩), by rw [ht9]; exact hP, va_K.moved hW9.alike hK, hD⟩, hS.F ht9⟩) hS.2.2 dX1_reckon_275 hlocks
                        · refine lv_aload_n hx hb dX1_reckon_197 rfl (lv_at hl 3 rfl) ?_
                          refine lv_iload_n hx hb dX1_reckon_198 rfl (lv_at hl 4 rfl) ?_
                          refine lv_iload hx hb dX1_reckon_199 (lv_at hl 0 rfl) ?_
                          refine lv_aload_n hx hb dX1_reckon_201 rfl (lv_at hl 3 rfl) ?_
                          refine lv_lload hx hb dX1_reckon_202 (lv_at hl 2 rfl) ?_
                          refine g_callSl S hs (tX1_size l t (u.2.1 a.toNatClampNeg)) ml_X1_39 st_yX1_size in_X1 cd_yX1_size hd_yX1_size ⟨by decide, by decide⟩ hE hS hA hl.1 rfl (Nat.le_of_ble_eq_true rfl) ⟨by decide, by decide⟩ dX1_reckon_204 (fun r_88 hr_88 => ?_)
                          subst hr_88
                          refine lv_lload hx hb dX1_reckon_207 (lv_at hl 1 rfl) ?_
                          refine g_callSl S hs (tX1_size l t (u.2.1 b.toNatClampNeg)) ml_X1_39 st_yX1_size in_X1 cd_yX1_size hd_yX1_size ⟨by decide, by decide⟩ hE hS hA hl.1 rfl (Nat.le_of_ble_eq_true rfl) ⟨by decide, by decide⟩ dX1_reckon_209 (fun r_89 hr_89 => ?_)
                          subst hr_89
                          refine g_callPl S hs (tX1_quotient l m0 (jX1_size (u.2.1 a.toNatClampNeg)) (jX1_size (u.2.1 b.toNatClampNeg)) (ksize_ne (by assumption))) (va_recv hK hP (ci := 1) (q0 := 0) rfl rfl) ml_X1_51 im_yX1_quotient se_yX1_quotient in_X1 cd_yX1_quotient hd_yX1_quotient ⟨by decide, by decide⟩ hl.1 rfl (Nat.le_of_ble_eq_true rfl) ⟨by decide, by decide⟩ dX1_reckon_212 (fun r_90 hr_90 => ?_)
                          subst hr_90
                          refine lv_iconst (v := 3) hx hb dX1_reckon_215 (by decide) ?_
                          refine g_callMl S hs (tX1_put l t D m0 m1 m2 cJ cI ((0 : Int32), u.2.1, u.2.2) r (1 : Int32) (kquotient (jX1_size (u.2.1 a.toNatClampNeg)) (jX1_size (u.2.1 b.toNatClampNeg))) (3 : Int32) (out_in (by assumption))) rfl ml_X1_43 im_yX1_put se_yX1_put cd_yX1_put hd_yX1_put ⟨by decide, by decide⟩ hE hS hA hP hK hD hl.1 rfl (Nat.le_of_ble_eq_true rfl) ⟨by decide, by decide⟩ dX1_reckon_216 (fun r_91 u_91 H locs hr_91 hP hD hS => ?_)
                          obtain ⟨rfl, rfl⟩ := hr_91
                          exact W.lret (v := (kput ((0 : Int32), u.2.1, u.2.2) r (1 : Int32) (kquotient (jX1_size (u.2.1 a.toNatClampNeg)) (jX1_size (u.2.1 b.toNatClampNeg))) (3 : Int32)).1) hx hb hr (fun t9 ht9 hW9 => ⟨⟨(kput ((0 : Int32), u.2.1, u.2.2) r (1 : Int32) (kquotient (jX1_size (u.2.1 a.toNatClampNeg)) (jX1_size (u.2.1 b.toNatClampNeg))) (3 : Int32)).1, (kput ((0 : Int32), u.2.1, u.2.2) r (1 : Int32) (kquotient (jX1_size (u.2.1 a.toNatClampNeg)) (jX1_size (u.2.1 b.toNatClampNeg))) (3 : Int32)).2, rfl, (⟨by rw [kreckon, if_pos c_2, if_neg c_4, if_neg c_6, if_pos c_9, if_pos c_12, if_neg c_13, if_neg c_53, if_pos c_54, if_pos c_55, if_neg c_56, if_neg c_77, if_pos c_78], by rw [kreckon, if_pos c_2, if_neg c_4, if_neg c_6, if_pos c_9, if_pos c_12, if_neg c_13, if_neg c_53, if_pos c_54, if_pos c_55, if_neg c_56, if_neg c_77, if_pos c_78]⟩), by rw [ht9]; exact hP, va_K.moved hW9.alike hK, hD⟩, hS.F ht9⟩) hS.2.2 dX1_reckon_219 hlocks
                      · refine lv_aload_n hx hb dX1_reckon_169 rfl (lv_at hl 3 rfl) ?_
                        refine lv_iload_n hx hb dX1_reckon_170 rfl (lv_at hl 4 rfl) ?_
                        refine lv_iload hx hb dX1_reckon_171 (lv_at hl 0 rfl) ?_
                        refine lv_aload_n hx hb dX1_reckon_173 rfl (lv_at hl 3 rfl) ?_
                        refine lv_lload hx hb dX1_reckon_174 (lv_at hl 2 rfl) ?_
                        refine g_callSl S hs (tX1_size l t (u.2.1 a.toNatClampNeg)) ml_X1_39 st_yX1_size in_X1 cd_yX1_size hd_yX1_size ⟨by decide, by decide⟩ hE hS hA hl.1 rfl (Nat.le_of_ble_eq_true rfl) ⟨by decide, by decide⟩ dX1_reckon_176 (fun r_92 hr_92 => ?_)
                        subst hr_92
                        refine lv_lload hx hb dX1_reckon_179 (lv_at hl 1 rfl) ?_
                        refine g_callSl S hs (tX1_size l t (u.2.1 b.toNatClampNeg)) ml_X1_39 st_yX1_size in_X1 cd_yX1_size hd_yX1_size ⟨by decide, by decide⟩ hE hS hA hl.1 rfl (Nat.le_of_ble_eq_true rfl) ⟨by decide, by decide⟩ dX1_reckon_181 (fun r_93 hr_93 => ?_)
                        subst hr_93
                        refine g_callPl S hs (tX1_product l m0 (jX1_size (u.2.1 a.toNatClampNeg)) (jX1_size (u.2.1 b.toNatClampNeg))) (va_recv hK hP (ci := 1) (q0 := 0) rfl rfl) ml_X1_47 im_yX1_product se_yX1_product in_X1 cd_yX1_product hd_yX1_product ⟨by decide, by decide⟩ hl.1 rfl (Nat.le_of_ble_eq_true rfl) ⟨by decide, by decide⟩ dX1_reckon_184 (fun r_94 hr_94 => ?_)
                        subst hr_94
                        refine lv_iconst (v := 3) hx hb dX1_reckon_187 (by decide) ?_
                        refine g_callMl S hs (tX1_put l t D m0 m1 m2 cJ cI ((0 : Int32), u.2.1, u.2.2) r (1 : Int32) (kproduct (jX1_size (u.2.1 a.toNatClampNeg)) (jX1_size (u.2.1 b.toNatClampNeg))) (3 : Int32) (out_in (by assumption))) rfl ml_X1_43 im_yX1_put se_yX1_put cd_yX1_put hd_yX1_put ⟨by decide, by decide⟩ hE hS hA hP hK hD hl.1 rfl (Nat.le_of_ble_eq_true rfl) ⟨by decide, by decide⟩ dX1_reckon_188 (fun r_95 u_95 H locs hr_95 hP hD hS => ?_)
                        obtain ⟨rfl, rfl⟩ := hr_95
                        exact W.lret (v := (kput ((0 : Int32), u.2.1, u.2.2) r (1 : Int32) (kproduct (jX1_size (u.2.1 a.toNatClampNeg)) (jX1_size (u.2.1 b.toNatClampNeg))) (3 : Int32)).1) hx hb hr (fun t9 ht9 hW9 => ⟨⟨(kput ((0 : Int32), u.2.1, u.2.2) r (1 : Int32) (kproduct (jX1_size (u.2.1 a.toNatClampNeg)) (jX1_size (u.2.1 b.toNatClampNeg))) (3 : Int32)).1, (kput ((0 : Int32), u.2.1, u.2.2) r (1 : Int32) (kproduct (jX1_size (u.2.1 a.toNatClampNeg)) (jX1_size (u.2.1 b.toNatClampNeg))) (3 : Int32)).2, rfl, (⟨by rw [kreckon, if_pos c_2, if_neg c_4, if_neg c_6, if_pos c_9, if_pos c_12, if_neg c_13, if_neg c_53, if_pos c_54, if_pos c_55, if_neg c_56, if_pos c_77], by rw [kreckon, if_pos c_2, if_neg c_4, if_neg c_6, if_pos c_9, if_pos c_12, if_neg c_13, if_neg c_53, if_pos c_54, if_pos c_55, if_neg c_56, if_pos c_77]⟩), by rw [ht9]; exact hP, va_K.moved hW9.alike hK, hD⟩, hS.F ht9⟩) hS.2.2 dX1_reckon_191 hlocks
                  · refine lv_iconst (v := 1) hx hb dX1_reckon_137 (by decide) ?_
                    refine lv_goto (tgt := 142) hx hb dX1_reckon_138 (by decide) ?_
                    refine lv_lload hx hb dX1_reckon_142 (lv_at hl 0 rfl) ?_
                    refine lv_lconst (v := 0) hx hb dX1_reckon_144 (by decide) ?_
                    refine g_lc_ge (tgt := 153) hx hb dX1_reckon_145 dX1_reckon_146 (by decide) (fun c_96 => ?_) (fun c_96 => ?_)
                    · refine lv_iconst (v := 0) hx hb dX1_reckon_153 (by decide) ?_
                      refine lv_icmp_eq (tgt := 161) hx hb dX1_reckon_154 (by decide) (fun c_97 => absurd c_97 (by decide)) (fun c_97 => ?_)
                      refine lv_iconst (v := 1) hx hb dX1_reckon_157 (by decide) ?_
                      refine lv_goto (tgt := 162) hx hb dX1_reckon_158 (by decide) ?_
                      refine lv_istore (lv' := [(9, .int (1 : Int32)), (7, .long (u.2.1 b.toNatClampNeg)), (5, .long (u.2.1 a.toNatClampNeg)), (0, .ref m0), (1, .int r), (2, .int op), (3, .int a), (4, .int b)]) hx hb dX1_reckon_162 hl (by decide) rfl (fun ls hl => ?_)
                      refine lv_iload_n hx hb dX1_reckon_164 rfl (lv_at hl 5 rfl) ?_
                      refine lv_iconst (v := 2) hx hb dX1_reckon_165 (by decide) ?_
                      refine lv_icmp_ne (tgt := 192) hx hb dX1_reckon_166 (by decide) (fun c_98 => ?_) (fun c_98 => ?_)
                      · refine lv_iload_n hx hb dX1_reckon_192 rfl (lv_at hl 5 rfl) ?_
                        refine lv_iconst (v := 3) hx hb dX1_reckon_193 (by decide) ?_
                        refine lv_icmp_ne (tgt := 220) hx hb dX1_reckon_194 (by decide) (fun c_99 => ?_) (fun c_99 => ?_)
                        · refine lv_lload hx hb dX1_reckon_220 (lv_at hl 2 rfl) ?_
                          refine g_callSl S hs (tX1_size l t (u.2.1 a.toNatClampNeg)) ml_X1_39 st_yX1_size in_X1 cd_yX1_size hd_yX1_size ⟨by decide, by decide⟩ hE hS hA hl.1 rfl (Nat.le_of_ble_eq_true rfl) ⟨by decide, by decide⟩ dX1_reckon_222 (fun r_100 hr_100 => ?_)
                          subst hr_100
                          refine lv_lload hx hb dX1_reckon_225 (lv_at hl 1 rfl) ?_
                          refine g_callSl S hs (tX1_size l t (u.2.1 b.toNatClampNeg)) ml_X1_39 st_yX1_size in_X1 cd_yX1_size hd_yX1_size ⟨by decide, by decide⟩ hE hS hA hl.1 rfl (Nat.le_of_ble_eq_true rfl) ⟨by decide, by decide⟩ dX1_reckon_227 (fun r_101 hr_101 => ?_)
                          subst hr_101
                          refine lv_lrem hx hb dX1_reckon_230 (ksize_ne (by assumption)) ?_
                          refine lv_lstore (lv' := [(10, .long ((jX1_size (u.2.1 a.toNatClampNeg)) - (jX1_size (u.2.1 a.toNatClampNeg)) / (jX1_size (u.2.1 b.toNatClampNeg)) * (jX1_size (u.2.1 b.toNatClampNeg)))), (9, .int (1 : Int32)), (7, .long (u.2.1 b.toNatClampNeg)), (5, .long (u.2.1 a.toNatClampNeg)), (0, .ref m0), (1, .int r), (2, .int op), (3, .int a), (4, .int b)]) hx hb dX1_reckon_231 hl (by decide) rfl (fun ls hl => ?_)
                          refine lv_lload hx hb dX1_reckon_233 (lv_at hl 0 rfl) ?_
                          refine lv_lconst (v := 0) hx hb dX1_reckon_235 (by decide) ?_
                          refine g_lc_le (tgt := 255) hx hb dX1_reckon_236 dX1_reckon_237 (by decide) (fun c_102 => ?_) (fun c_102 => ?_)
                          · refine lv_aload_n hx hb dX1_reckon_255 rfl (lv_at hl 4 rfl) ?_
                            refine lv_iload_n hx hb dX1_reckon_256 rfl (lv_at hl 5 rfl) ?_
                            refine lv_lload hx hb dX1_reckon_257 (lv_at hl 2 rfl) ?_
                            refine lv_lconst (v := 0) hx hb dX1_reckon_259 (by decide) ?_
                            refine g_lc_ge (tgt := 268) hx hb dX1_reckon_260 dX1_reckon_261 (by decide) (fun c_103 => ?_) (fun c_103 => absurd (c_96) c_103)
                            refine lv_iconst (v := 0) hx hb dX1_reckon_268 (by decide) ?_
                            refine lv_lload hx hb dX1_reckon_269 (lv_at hl 0 rfl) ?_
                            refine lv_iconst (v := 3) hx hb dX1_reckon_271 (by decide) ?_
                            refine g_callMl S hs (tX1_put l t D m0 m1 m2 cJ cI ((0 : Int32), u.2.1, u.2.2) r (0 : Int32) ((jX1_size (u.2.1 a.toNatClampNeg)) - (jX1_size (u.2.1 a.toNatClampNeg)) / (jX1_size (u.2.1 b.toNatClampNeg)) * (jX1_size (u.2.1 b.toNatClampNeg))) (3 : Int32) (out_in (by assumption))) rfl ml_X1_43 im_yX1_put se_yX1_put cd_yX1_put hd_yX1_put ⟨by decide, by decide⟩ hE hS hA hP hK hD hl.1 rfl (Nat.le_of_ble_eq_true rfl) ⟨by decide, by decide⟩ dX1_reckon_272 (fun r_104 u_104 H locs hr_104 hP hD hS => ?_)
                            obtain ⟨rfl, rfl⟩ := hr_104
                            exact W.lret (v := (kput ((0 : Int32), u.2.1, u.2.2) r (0 : Int32) ((jX1_size (u.2.1 a.toNatClampNeg)) - (jX1_size (u.2.1 a.toNatClampNeg)) / (jX1_size (u.2.1 b.toNatClampNeg)) * (jX1_size (u.2.1 b.toNatClampNeg))) (3 : Int32)).1) hx hb hr (fun t9 ht9 hW9 => ⟨⟨(kput ((0 : Int32), u.2.1, u.2.2) r (0 : Int32) ((jX1_size (u.2.1 a.toNatClampNeg)) - (jX1_size (u.2.1 a.toNatClampNeg)) / (jX1_size (u.2.1 b.toNatClampNeg)) * (jX1_size (u.2.1 b.toNatClampNeg))) (3 : Int32)).1, (kput ((0 : Int32), u.2.1, u.2.2) r (0 : Int32) ((jX1_size (u.2.1 a.toNatClampNeg)) - (jX1_size (u.2.1 a.toNatClampNeg)) / (jX1_size (u.2.1 b.toNatClampNeg)) * (jX1_size (u.2.1 b.toNatClampNeg))) (3 : Int32)).2, rfl, (⟨by rw [kreckon, if_pos c_2, if_neg c_4, if_neg c_6, if_pos c_9, if_pos c_12, if_neg c_13, if_neg c_53, if_pos c_54, if_neg c_55, if_pos c_96, if_neg c_98, if_neg c_99, if_pos c_102], by rw [kreckon, if_pos c_2, if_neg c_4, if_neg c_6, if_pos c_9, if_pos c_12, if_neg c_13, if_neg c_53, if_pos c_54, if_neg c_55, if_pos c_96, if_neg c_98, if_neg c_99, if_pos c_102]⟩), by rw [ht9]; exact hP, va_K.moved hW9.alike hK, hD⟩, hS.F ht9⟩) hS.2.2 dX1_reckon_275 hlocks
                          · refine lv_iload hx hb dX1_reckon_240 (lv_at hl 1 rfl) ?_
                            refine lv_if_eq (tgt := 255) hx hb dX1_reckon_242 (by decide) (fun c_105 => absurd c_105 (by decide)) (fun c_105 => ?_)
                            refine lv_lload hx hb dX1_reckon_245 (lv_at hl 2 rfl) ?_
                            refine g_callSl S hs (tX1_size l t (u.2.1 b.toNatClampNeg)) ml_X1_39 st_yX1_size in_X1 cd_yX1_size hd_yX1_size ⟨by decide, by decide⟩ hE hS hA hl.1 rfl (Nat.le_of_ble_eq_true rfl) ⟨by decide, by decide⟩ dX1_reckon_247 (fun r_106 hr_106 => ?_)
                            subst hr_106
                            refine lv_lload hx hb dX1_reckon_250 (lv_at hl 0 rfl) ?_
                            refine lv_lsub hx hb dX1_reckon_252 ?_
                            refine lv_lstore (lv' := [(10, .long ((jX1_size (u.2.1 b.toNatClampNeg)) - ((jX1_size (u.2.1 a.toNatClampNeg)) - (jX1_size (u.2.1 a.toNatClampNeg)) / (jX1_size (u.2.1 b.toNatClampNeg)) * (jX1_size (u.2.1 b.toNatClampNeg))))), (9, .int (1 : Int32)), (7, .long (u.2.1 b.toNatClampNeg)), (5, .long (u.2.1 a.toNatClampNeg)), (0, .ref m0), (1, .int r), (2, .int op), (3, .int a), (4, .int b)]) hx hb dX1_reckon_253 hl (by decide) rfl (fun ls hl => ?_)
                            refine lv_aload_n hx hb dX1_reckon_255 rfl (lv_at hl 4 rfl) ?_
                            refine lv_iload_n hx hb dX1_reckon_256 rfl (lv_at hl 5 rfl) ?_
                            refine lv_lload hx hb dX1_reckon_257 (lv_at hl 2 rfl) ?_
                            refine lv_lconst (v := 0) hx hb dX1_reckon_259 (by decide) ?_
                            refine g_lc_ge (tgt := 268) hx hb dX1_reckon_260 dX1_reckon_261 (by decide) (fun c_107 => ?_) (fun c_107 => absurd (c_96) c_107)
                            refine lv_iconst (v := 0) hx hb dX1_reckon_268 (by decide) ?_
                            refine lv_lload hx hb dX1_reckon_269 (lv_at hl 0 rfl) ?_
                            refine lv_iconst (v := 3) hx hb dX1_reckon_271 (by decide) ?_
                            refine g_callMl S hs (tX1_put l t D m0 m1 m2 cJ cI ((0 : Int32), u.2.1, u.2.2) r (0 : Int32) ((jX1_size (u.2.1 b.toNatClampNeg)) - ((jX1_size (u.2.1 a.toNatClampNeg)) - (jX1_size (u.2.1 a.toNatClampNeg)) / (jX1_size (u.2.1 b.toNatClampNeg)) * (jX1_size (u.2.1 b.toNatClampNeg)))) (3 : Int32) (out_in (by assumption))) rfl ml_X1_43 im_yX1_put se_yX1_put cd_yX1_put hd_yX1_put ⟨by decide, by decide⟩ hE hS hA hP hK hD hl.1 rfl (Nat.le_of_ble_eq_true rfl) ⟨by decide, by decide⟩ dX1_reckon_272 (fun r_108 u_108 H locs hr_108 hP hD hS => ?_)
                            obtain ⟨rfl, rfl⟩ := hr_108
                            exact W.lret (v := (kput ((0 : Int32), u.2.1, u.2.2) r (0 : Int32) ((jX1_size (u.2.1 b.toNatClampNeg)) - ((jX1_size (u.2.1 a.toNatClampNeg)) - (jX1_size (u.2.1 a.toNatClampNeg)) / (jX1_size (u.2.1 b.toNatClampNeg)) * (jX1_size (u.2.1 b.toNatClampNeg)))) (3 : Int32)).1) hx hb hr (fun t9 ht9 hW9 => ⟨⟨(kput ((0 : Int32), u.2.1, u.2.2) r (0 : Int32) ((jX1_size (u.2.1 b.toNatClampNeg)) - ((jX1_size (u.2.1 a.toNatClampNeg)) - (jX1_size (u.2.1 a.toNatClampNeg)) / (jX1_size (u.2.1 b.toNatClampNeg)) * (jX1_size (u.2.1 b.toNatClampNeg)))) (3 : Int32)).1, (kput ((0 : Int32), u.2.1, u.2.2) r (0 : Int32) ((jX1_size (u.2.1 b.toNatClampNeg)) - ((jX1_size (u.2.1 a.toNatClampNeg)) - (jX1_size (u.2.1 a.toNatClampNeg)) / (jX1_size (u.2.1 b.toNatClampNeg)) * (jX1_size (u.2.1 b.toNatClampNeg)))) (3 : Int32)).2, rfl, (⟨by rw [kreckon, if_pos c_2, if_neg c_4, if_neg c_6, if_pos c_9, if_pos c_12, if_neg c_13, if_neg c_53, if_pos c_54, if_neg c_55, if_pos c_96, if_neg c_98, if_neg c_99, if_neg c_102], by rw [kreckon, if_pos c_2, if_neg c_4, if_neg c_6, if_pos c_9, if_pos c_12, if_neg c_13, if_neg c_53, if_pos c_54, if_neg c_55, if_pos c_96, if_neg c_98, if_neg c_99, if_neg c_102]⟩), by rw [ht9]; exact hP, va_K.moved hW9.alike hK, hD⟩, hS.F ht9⟩) hS.2.2 dX1_reckon_275 hlocks
                        · refine lv_aload_n hx hb dX1_reckon_197 rfl (lv_at hl 3 rfl) ?_
                          refine lv_iload_n hx hb dX1_reckon_198 rfl (lv_at hl 4 rfl) ?_
                          refine lv_iload hx hb dX1_reckon_199 (lv_at hl 0 rfl) ?_
                          refine lv_aload_n hx hb dX1_reckon_201 rfl (lv_at hl 3 rfl) ?_
                          refine lv_lload hx hb dX1_reckon_202 (lv_at hl 2 rfl) ?_
                          refine g_callSl S hs (tX1_size l t (u.2.1 a.toNatClampNeg)) ml_X1_39 st_yX1_size in_X1 cd_yX1_size hd_yX1_size ⟨by decide, by decide⟩ hE hS hA hl.1 rfl (Nat.le_of_ble_eq_true rfl) ⟨by decide, by decide⟩ dX1_reckon_204 (fun r_109 hr_109 => ?_)
                          subst hr_109
                          refine lv_lload hx hb dX1_reckon_207 (lv_at hl 1 rfl) ?_
                          refine g_callSl S hs (tX1_size l t (u.2.1 b.toNatClampNeg)) ml_X1_39 st_yX1_size in_X1 cd_yX1_size hd_yX1_size ⟨by decide, by decide⟩ hE hS hA hl.1 rfl (Nat.le_of_ble_eq_true rfl) ⟨by decide, by decide⟩ dX1_reckon_209 (fun r_110 hr_110 => ?_)
                          subst hr_110
                          refine g_callPl S hs (tX1_quotient l m0 (jX1_size (u.2.1 a.toNatClampNeg)) (jX1_size (u.2.1 b.toNatClampNeg)) (ksize_ne (by assumption))) (va_recv hK hP (ci := 1) (q0 := 0) rfl rfl) ml_X1_51 im_yX1_quotient se_yX1_quotient in_X1 cd_yX1_quotient hd_yX1_quotient ⟨by decide, by decide⟩ hl.1 rfl (Nat.le_of_ble_eq_true rfl) ⟨by decide, by decide⟩ dX1_reckon_212 (fun r_111 hr_111 => ?_)
                          subst hr_111
                          refine lv_iconst (v := 3) hx hb dX1_reckon_215 (by decide) ?_
                          refine g_callMl S hs (tX1_put l t D m0 m1 m2 cJ cI ((0 : Int32), u.2.1, u.2.2) r (1 : Int32) (kquotient (jX1_size (u.2.1 a.toNatClampNeg)) (jX1_size (u.2.1 b.toNatClampNeg))) (3 : Int32) (out_in (by assumption))) rfl ml_X1_43 im_yX1_put se_yX1_put cd_yX1_put hd_yX1_put ⟨by decide, by decide⟩ hE hS hA hP hK hD hl.1 rfl (Nat.le_of_ble_eq_true rfl) ⟨by decide, by decide⟩ dX1_reckon_216 (fun r_112 u_112 H locs hr_112 hP hD hS => ?_)
                          obtain ⟨rfl, rfl⟩ := hr_112
                          exact W.lret (v := (kput ((0 : Int32), u.2.1, u.2.2) r (1 : Int32) (kquotient (jX1_size (u.2.1 a.toNatClampNeg)) (jX1_size (u.2.1 b.toNatClampNeg))) (3 : Int32)).1) hx hb hr (fun t9 ht9 hW9 => ⟨⟨(kput ((0 : Int32), u.2.1, u.2.2) r (1 : Int32) (kquotient (jX1_size (u.2.1 a.toNatClampNeg)) (jX1_size (u.2.1 b.toNatClampNeg))) (3 : Int32)).1, (kput ((0 : Int32), u.2.1, u.2.2) r (1 : Int32) (kquotient (jX1_size (u.2.1 a.toNatClampNeg)) (jX1_size (u.2.1 b.toNatClampNeg))) (3 : Int32)).2, rfl, (⟨by rw [kreckon, if_pos c_2, if_neg c_4, if_neg c_6, if_pos c_9, if_pos c_12, if_neg c_13, if_neg c_53, if_pos c_54, if_neg c_55, if_pos c_96, if_neg c_98, if_pos c_99], by rw [kreckon, if_pos c_2, if_neg c_4, if_neg c_6, if_pos c_9, if_pos c_12, if_neg c_13, if_neg c_53, if_pos c_54, if_neg c_55, if_pos c_96, if_neg c_98, if_pos c_99]⟩), by rw [ht9]; exact hP, va_K.moved hW9.alike hK, hD⟩, hS.F ht9⟩) hS.2.2 dX1_reckon_219 hlocks
                      · refine lv_aload_n hx hb dX1_reckon_169 rfl (lv_at hl 3 rfl) ?_
                        refine lv_iload_n hx hb dX1_reckon_170 rfl (lv_at hl 4 rfl) ?_
                        refine lv_iload hx hb dX1_reckon_171 (lv_at hl 0 rfl) ?_
                        refine lv_aload_n hx hb dX1_reckon_173 rfl (lv_at hl 3 rfl) ?_
                        refine lv_lload hx hb dX1_reckon_174 (lv_at hl 2 rfl) ?_
                        refine g_callSl S hs (tX1_size l t (u.2.1 a.toNatClampNeg)) ml_X1_39 st_yX1_size in_X1 cd_yX1_size hd_yX1_size ⟨by decide, by decide⟩ hE hS hA hl.1 rfl (Nat.le_of_ble_eq_true rfl) ⟨by decide, by decide⟩ dX1_reckon_176 (fun r_113 hr_113 => ?_)
                        subst hr_113
                        refine lv_lload hx hb dX1_reckon_179 (lv_at hl 1 rfl) ?_
                        refine g_callSl S hs (tX1_size l t (u.2.1 b.toNatClampNeg)) ml_X1_39 st_yX1_size in_X1 cd_yX1_size hd_yX1_size ⟨by decide, by decide⟩ hE hS hA hl.1 rfl (Nat.le_of_ble_eq_true rfl) ⟨by decide, by decide⟩ dX1_reckon_181 (fun r_114 hr_114 => ?_)
                        subst hr_114
                        refine g_callPl S hs (tX1_product l m0 (jX1_size (u.2.1 a.toNatClampNeg)) (jX1_size (u.2.1 b.toNatClampNeg))) (va_recv hK hP (ci := 1) (q0 := 0) rfl rfl) ml_X1_47 im_yX1_product se_yX1_product in_X1 cd_yX1_product hd_yX1_product ⟨by decide, by decide⟩ hl.1 rfl (Nat.le_of_ble_eq_true rfl) ⟨by decide, by decide⟩ dX1_reckon_184 (fun r_115 hr_115 => ?_)
                        subst hr_115
                        refine lv_iconst (v := 3) hx hb dX1_reckon_187 (by decide) ?_
                        refine g_callMl S hs (tX1_put l t D m0 m1 m2 cJ cI ((0 : Int32), u.2.1, u.2.2) r (1 : Int32) (kproduct (jX1_size (u.2.1 a.toNatClampNeg)) (jX1_size (u.2.1 b.toNatClampNeg))) (3 : Int32) (out_in (by assumption))) rfl ml_X1_43 im_yX1_put se_yX1_put cd_yX1_put hd_yX1_put ⟨by decide, by decide⟩ hE hS hA hP hK hD hl.1 rfl (Nat.le_of_ble_eq_true rfl) ⟨by decide, by decide⟩ dX1_reckon_188 (fun r_116 u_116 H locs hr_116 hP hD hS => ?_)
                        obtain ⟨rfl, rfl⟩ := hr_116
                        exact W.lret (v := (kput ((0 : Int32), u.2.1, u.2.2) r (1 : Int32) (kproduct (jX1_size (u.2.1 a.toNatClampNeg)) (jX1_size (u.2.1 b.toNatClampNeg))) (3 : Int32)).1) hx hb hr (fun t9 ht9 hW9 => ⟨⟨(kput ((0 : Int32), u.2.1, u.2.2) r (1 : Int32) (kproduct (jX1_size (u.2.1 a.toNatClampNeg)) (jX1_size (u.2.1 b.toNatClampNeg))) (3 : Int32)).1, (kput ((0 : Int32), u.2.1, u.2.2) r (1 : Int32) (kproduct (jX1_size (u.2.1 a.toNatClampNeg)) (jX1_size (u.2.1 b.toNatClampNeg))) (3 : Int32)).2, rfl, (⟨by rw [kreckon, if_pos c_2, if_neg c_4, if_neg c_6, if_pos c_9, if_pos c_12, if_neg c_13, if_neg c_53, if_pos c_54, if_neg c_55, if_pos c_96, if_pos c_98], by rw [kreckon, if_pos c_2, if_neg c_4, if_neg c_6, if_pos c_9, if_pos c_12, if_neg c_13, if_neg c_53, if_pos c_54, if_neg c_55, if_pos c_96, if_pos c_98]⟩), by rw [ht9]; exact hP, va_K.moved hW9.alike hK, hD⟩, hS.F ht9⟩) hS.2.2 dX1_reckon_191 hlocks
                    · refine lv_iconst (v := 1) hx hb dX1_reckon_149 (by decide) ?_
                      refine lv_goto (tgt := 154) hx hb dX1_reckon_150 (by decide) ?_
                      refine lv_icmp_eq (tgt := 161) hx hb dX1_reckon_154 (by decide) (fun c_117 => ?_) (fun c_117 => absurd c_117 (by decide))
                      refine lv_iconst (v := 0) hx hb dX1_reckon_161 (by decide) ?_
                      refine lv_istore (lv' := [(9, .int (0 : Int32)), (7, .long (u.2.1 b.toNatClampNeg)), (5, .long (u.2.1 a.toNatClampNeg)), (0, .ref m0), (1, .int r), (2, .int op), (3, .int a), (4, .int b)]) hx hb dX1_reckon_162 hl (by decide) rfl (fun ls hl => ?_)
                      refine lv_iload_n hx hb dX1_reckon_164 rfl (lv_at hl 5 rfl) ?_
                      refine lv_iconst (v := 2) hx hb dX1_reckon_165 (by decide) ?_
                      refine lv_icmp_ne (tgt := 192) hx hb dX1_reckon_166 (by decide) (fun c_118 => ?_) (fun c_118 => ?_)
                      · refine lv_iload_n hx hb dX1_reckon_192 rfl (lv_at hl 5 rfl) ?_
                        refine lv_iconst (v := 3) hx hb dX1_reckon_193 (by decide) ?_
                        refine lv_icmp_ne (tgt := 220) hx hb dX1_reckon_194 (by decide) (fun c_119 => ?_) (fun c_119 => ?_)
                        · refine lv_lload hx hb dX1_reckon_220 (lv_at hl 2 rfl) ?_
                          refine g_callSl S hs (tX1_size l t (u.2.1 a.toNatClampNeg)) ml_X1_39 st_yX1_size in_X1 cd_yX1_size hd_yX1_size ⟨by decide, by decide⟩ hE hS hA hl.1 rfl (Nat.le_of_ble_eq_true rfl) ⟨by decide, by decide⟩ dX1_reckon_222 (fun r_120 hr_120 => ?_)
                          subst hr_120
                          refine lv_lload hx hb dX1_reckon_225 (lv_at hl 1 rfl) ?_
                          refine g_callSl S hs (tX1_size l t (u.2.1 b.toNatClampNeg)) ml_X1_39 st_yX1_size in_X1 cd_yX1_size hd_yX1_size ⟨by decide, by decide⟩ hE hS hA hl.1 rfl (Nat.le_of_ble_eq_true rfl) ⟨by decide, by decide⟩ dX1_reckon_227 (fun r_121 hr_121 => ?_)
                          subst hr_121
                          refine lv_lrem hx hb dX1_reckon_230 (ksize_ne (by assumption)) ?_
                          refine lv_lstore (lv' := [(10, .long ((jX1_size (u.2.1 a.toNatClampNeg)) - (jX1_size (u.2.1 a.toNatClampNeg)) / (jX1_size (u.2.1 b.toNatClampNeg)) * (jX1_size (u.2.1 b.toNatClampNeg)))), (9, .int (0 : Int32)), (7, .long (u.2.1 b.toNatClampNeg)), (5, .long (u.2.1 a.toNatClampNeg)), (0, .ref m0), (1, .int r), (2, .int op), (3, .int a), (4, .int b)]) hx hb dX1_reckon_231 hl (by decide) rfl (fun ls hl => ?_)
                          refine lv_lload hx hb dX1_reckon_233 (lv_at hl 0 rfl) ?_
                          refine lv_lconst (v := 0) hx hb dX1_reckon_235 (by decide) ?_
                          refine g_lc_le (tgt := 255) hx hb dX1_reckon_236 dX1_reckon_237 (by decide) (fun c_122 => ?_) (fun c_122 => ?_)
                          · refine lv_aload_n hx hb dX1_reckon_255 rfl (lv_at hl 4 rfl) ?_
                            refine lv_iload_n hx hb dX1_reckon_256 rfl (lv_at hl 5 rfl) ?_
                            refine lv_lload hx hb dX1_reckon_257 (lv_at hl 2 rfl) ?_
                            refine lv_lconst (v := 0) hx hb dX1_reckon_259 (by decide) ?_
                            refine g_lc_ge (tgt := 268) hx hb dX1_reckon_260 dX1_reckon_261 (by decide) (fun c_123 => absurd c_123 c_96) (fun c_123 => ?_)
                            refine lv_iconst (v := 1) hx hb dX1_reckon_264 (by decide) ?_
                            refine lv_goto (tgt := 269) hx hb dX1_reckon_265 (by decide) ?_
                            refine lv_lload hx hb dX1_reckon_269 (lv_at hl 0 rfl) ?_
                            refine lv_iconst (v := 3) hx hb dX1_reckon_271 (by decide) ?_
                            refine g_callMl S hs (tX1_put l t D m0 m1 m2 cJ cI ((0 : Int32), u.2.1, u.2.2) r (1 : Int32) ((jX1_size (u.2.1 a.toNatClampNeg)) - (jX1_size (u.2.1 a.toNatClampNeg)) / (jX1_size (u.2.1 b.toNatClampNeg)) * (jX1_size (u.2.1 b.toNatClampNeg))) (3 : Int32) (out_in (by assumption))) rfl ml_X1_43 im_yX1_put se_yX1_put cd_yX1_put hd_yX1_put ⟨by decide, by decide⟩ hE hS hA hP hK hD hl.1 rfl (Nat.le_of_ble_eq_true rfl) ⟨by decide, by decide⟩ dX1_reckon_272 (fun r_124 u_124 H locs hr_124 hP hD hS => ?_)
                            obtain ⟨rfl, rfl⟩ := hr_124
                            exact W.lret (v := (kput ((0 : Int32), u.2.1, u.2.2) r (1 : Int32) ((jX1_size (u.2.1 a.toNatClampNeg)) - (jX1_size (u.2.1 a.toNatClampNeg)) / (jX1_size (u.2.1 b.toNatClampNeg)) * (jX1_size (u.2.1 b.toNatClampNeg))) (3 : Int32)).1) hx hb hr (fun t9 ht9 hW9 => ⟨⟨(kput ((0 : Int32), u.2.1, u.2.2) r (1 : Int32) ((jX1_size (u.2.1 a.toNatClampNeg)) - (jX1_size (u.2.1 a.toNatClampNeg)) / (jX1_size (u.2.1 b.toNatClampNeg)) * (jX1_size (u.2.1 b.toNatClampNeg))) (3 : Int32)).1, (kput ((0 : Int32), u.2.1, u.2.2) r (1 : Int32) ((jX1_size (u.2.1 a.toNatClampNeg)) - (jX1_size (u.2.1 a.toNatClampNeg)) / (jX1_size (u.2.1 b.toNatClampNeg)) * (jX1_size (u.2.1 b.toNatClampNeg))) (3 : Int32)).2, rfl, (⟨by rw [kreckon, if_pos c_2, if_neg c_4, if_neg c_6, if_pos c_9, if_pos c_12, if_neg c_13, if_neg c_53, if_pos c_54, if_neg c_55, if_neg c_96, if_neg c_118, if_neg c_119, if_pos c_122], by rw [kreckon, if_pos c_2, if_neg c_4, if_neg c_6, if_pos c_9, if_pos c_12, if_neg c_13, if_neg c_53, if_pos c_54, if_neg c_55, if_neg c_96, if_neg c_118, if_neg c_119, if_pos c_122]⟩), by rw [ht9]; exact hP, va_K.moved hW9.alike hK, hD⟩, hS.F ht9⟩) hS.2.2 dX1_reckon_275 hlocks
                          · refine lv_iload hx hb dX1_reckon_240 (lv_at hl 1 rfl) ?_
                            refine lv_if_eq (tgt := 255) hx hb dX1_reckon_242 (by decide) (fun c_125 => ?_) (fun c_125 => absurd c_125 (by decide))
                            refine lv_aload_n hx hb dX1_reckon_255 rfl (lv_at hl 4 rfl) ?_
                            refine lv_iload_n hx hb dX1_reckon_256 rfl (lv_at hl 5 rfl) ?_
                            refine lv_lload hx hb dX1_reckon_257 (lv_at hl 2 rfl) ?_
                            refine lv_lconst (v := 0) hx hb dX1_reckon_259 (by decide) ?_
                            refine g_lc_ge (tgt := 268) hx hb dX1_reckon_260 dX1_reckon_261 (by decide) (fun c_126 => absurd c_126 c_96) (fun c_126 => ?_)
                            refine lv_iconst (v := 1) hx hb dX1_reckon_264 (by decide) ?_
                            refine lv_goto (tgt := 269) hx hb dX1_reckon_265 (by decide) ?_
                            refine lv_lload hx hb dX1_reckon_269 (lv_at hl 0 rfl) ?_
                            refine lv_iconst (v := 3) hx hb dX1_reckon_271 (by decide) ?_
                            refine g_callMl S hs (tX1_put l t D m0 m1 m2 cJ cI ((0 : Int32), u.2.1, u.2.2) r (1 : Int32) ((jX1_size (u.2.1 a.toNatClampNeg)) - (jX1_size (u.2.1 a.toNatClampNeg)) / (jX1_size (u.2.1 b.toNatClampNeg)) * (jX1_size (u.2.1 b.toNatClampNeg))) (3 : Int32) (out_in (by assumption))) rfl ml_X1_43 im_yX1_put se_yX1_put cd_yX1_put hd_yX1_put ⟨by decide, by decide⟩ hE hS hA hP hK hD hl.1 rfl (Nat.le_of_ble_eq_true rfl) ⟨by decide, by decide⟩ dX1_reckon_272 (fun r_127 u_127 H locs hr_127 hP hD hS => ?_)
                            obtain ⟨rfl, rfl⟩ := hr_127
                            exact W.lret (v := (kput ((0 : Int32), u.2.1, u.2.2) r (1 : Int32) ((jX1_size (u.2.1 a.toNatClampNeg)) - (jX1_size (u.2.1 a.toNatClampNeg)) / (jX1_size (u.2.1 b.toNatClampNeg)) * (jX1_size (u.2.1 b.toNatClampNeg))) (3 : Int32)).1) hx hb hr (fun t9 ht9 hW9 => ⟨⟨(kput ((0 : Int32), u.2.1, u.2.2) r (1 : Int32) ((jX1_size (u.2.1 a.toNatClampNeg)) - (jX1_size (u.2.1 a.toNatClampNeg)) / (jX1_size (u.2.1 b.toNatClampNeg)) * (jX1_size (u.2.1 b.toNatClampNeg))) (3 : Int32)).1, (kput ((0 : Int32), u.2.1, u.2.2) r (1 : Int32) ((jX1_size (u.2.1 a.toNatClampNeg)) - (jX1_size (u.2.1 a.toNatClampNeg)) / (jX1_size (u.2.1 b.toNatClampNeg)) * (jX1_size (u.2.1 b.toNatClampNeg))) (3 : Int32)).2, rfl, (⟨by rw [kreckon, if_pos c_2, if_neg c_4, if_neg c_6, if_pos c_9, if_pos c_12, if_neg c_13, if_neg c_53, if_pos c_54, if_neg c_55, if_neg c_96, if_neg c_118, if_neg c_119, if_neg c_122], by rw [kreckon, if_pos c_2, if_neg c_4, if_neg c_6, if_pos c_9, if_pos c_12, if_neg c_13, if_neg c_53, if_pos c_54, if_neg c_55, if_neg c_96, if_neg c_118, if_neg c_119, if_neg c_122]⟩), by rw [ht9]; exact hP, va_K.moved hW9.alike hK, hD⟩, hS.F ht9⟩) hS.2.2 dX1_reckon_275 hlocks
                        · refine lv_aload_n hx hb dX1_reckon_197 rfl (lv_at hl 3 rfl) ?_
                          refine lv_iload_n hx hb dX1_reckon_198 rfl (lv_at hl 4 rfl) ?_
                          refine lv_iload hx hb dX1_reckon_199 (lv_at hl 0 rfl) ?_
                          refine lv_aload_n hx hb dX1_reckon_201 rfl (lv_at hl 3 rfl) ?_
                          refine lv_lload hx hb dX1_reckon_202 (lv_at hl 2 rfl) ?_
                          refine g_callSl S hs (tX1_size l t (u.2.1 a.toNatClampNeg)) ml_X1_39 st_yX1_size in_X1 cd_yX1_size hd_yX1_size ⟨by decide, by decide⟩ hE hS hA hl.1 rfl (Nat.le_of_ble_eq_true rfl) ⟨by decide, by decide⟩ dX1_reckon_204 (fun r_128 hr_128 => ?_)
                          subst hr_128
                          refine lv_lload hx hb dX1_reckon_207 (lv_at hl 1 rfl) ?_
                          refine g_callSl S hs (tX1_size l t (u.2.1 b.toNatClampNeg)) ml_X1_39 st_yX1_size in_X1 cd_yX1_size hd_yX1_size ⟨by decide, by decide⟩ hE hS hA hl.1 rfl (Nat.le_of_ble_eq_true rfl) ⟨by decide, by decide⟩ dX1_reckon_209 (fun r_129 hr_129 => ?_)
                          subst hr_129
                          refine g_callPl S hs (tX1_quotient l m0 (jX1_size (u.2.1 a.toNatClampNeg)) (jX1_size (u.2.1 b.toNatClampNeg)) (ksize_ne (by assumption))) (va_recv hK hP (ci := 1) (q0 := 0) rfl rfl) ml_X1_51 im_yX1_quotient se_yX1_quotient in_X1 cd_yX1_quotient hd_yX1_quotient ⟨by decide, by decide⟩ hl.1 rfl (Nat.le_of_ble_eq_true rfl) ⟨by decide, by decide⟩ dX1_reckon_212 (fun r_130 hr_130 => ?_)
                          subst hr_130
                          refine lv_iconst (v := 3) hx hb dX1_reckon_215 (by decide) ?_
                          refine g_callMl S hs (tX1_put l t D m0 m1 m2 cJ cI ((0 : Int32), u.2.1, u.2.2) r (0 : Int32) (kquotient (jX1_size (u.2.1 a.toNatClampNeg)) (jX1_size (u.2.1 b.toNatClampNeg))) (3 : Int32) (out_in (by assumption))) rfl ml_X1_43 im_yX1_put se_yX1_put cd_yX1_put hd_yX1_put ⟨by decide, by decide⟩ hE hS hA hP hK hD hl.1 rfl (Nat.le_of_ble_eq_true rfl) ⟨by decide, by decide⟩ dX1_reckon_216 (fun r_131 u_131 H locs hr_131 hP hD hS => ?_)
                          obtain ⟨rfl, rfl⟩ := hr_131
                          exact W.lret (v := (kput ((0 : Int32), u.2.1, u.2.2) r (0 : Int32) (kquotient (jX1_size (u.2.1 a.toNatClampNeg)) (jX1_size (u.2.1 b.toNatClampNeg))) (3 : Int32)).1) hx hb hr (fun t9 ht9 hW9 => ⟨⟨(kput ((0 : Int32), u.2.1, u.2.2) r (0 : Int32) (kquotient (jX1_size (u.2.1 a.toNatClampNeg)) (jX1_size (u.2.1 b.toNatClampNeg))) (3 : Int32)).1, (kput ((0 : Int32), u.2.1, u.2.2) r (0 : Int32) (kquotient (jX1_size (u.2.1 a.toNatClampNeg)) (jX1_size (u.2.1 b.toNatClampNeg))) (3 : Int32)).2, rfl, (⟨by rw [kreckon, if_pos c_2, if_neg c_4, if_neg c_6, if_pos c_9, if_pos c_12, if_neg c_13, if_neg c_53, if_pos c_54, if_neg c_55, if_neg c_96, if_neg c_118, if_pos c_119], by rw [kreckon, if_pos c_2, if_neg c_4, if_neg c_6, if_pos c_9, if_pos c_12, if_neg c_13, if_neg c_53, if_pos c_54, if_neg c_55, if_neg c_96, if_neg c_118, if_pos c_119]⟩), by rw [ht9]; exact hP, va_K.moved hW9.alike hK, hD⟩, hS.F ht9⟩) hS.2.2 dX1_reckon_219 hlocks
                      · refine lv_aload_n hx hb dX1_reckon_169 rfl (lv_at hl 3 rfl) ?_
                        refine lv_iload_n hx hb dX1_reckon_170 rfl (lv_at hl 4 rfl) ?_
                        refine lv_iload hx hb dX1_reckon_171 (lv_at hl 0 rfl) ?_
                        refine lv_aload_n hx hb dX1_reckon_173 rfl (lv_at hl 3 rfl) ?_
                        refine lv_lload hx hb dX1_reckon_174 (lv_at hl 2 rfl) ?_
                        refine g_callSl S hs (tX1_size l t (u.2.1 a.toNatClampNeg)) ml_X1_39 st_yX1_size in_X1 cd_yX1_size hd_yX1_size ⟨by decide, by decide⟩ hE hS hA hl.1 rfl (Nat.le_of_ble_eq_true rfl) ⟨by decide, by decide⟩ dX1_reckon_176 (fun r_132 hr_132 => ?_)
                        subst hr_132
                        refine lv_lload hx hb dX1_reckon_179 (lv_at hl 1 rfl) ?_
                        refine g_callSl S hs (tX1_size l t (u.2.1 b.toNatClampNeg)) ml_X1_39 st_yX1_size in_X1 cd_yX1_size hd_yX1_size ⟨by decide, by decide⟩ hE hS hA hl.1 rfl (Nat.le_of_ble_eq_true rfl) ⟨by decide, by decide⟩ dX1_reckon_181 (fun r_133 hr_133 => ?_)
                        subst hr_133
                        refine g_callPl S hs (tX1_product l m0 (jX1_size (u.2.1 a.toNatClampNeg)) (jX1_size (u.2.1 b.toNatClampNeg))) (va_recv hK hP (ci := 1) (q0 := 0) rfl rfl) ml_X1_47 im_yX1_product se_yX1_product in_X1 cd_yX1_product hd_yX1_product ⟨by decide, by decide⟩ hl.1 rfl (Nat.le_of_ble_eq_true rfl) ⟨by decide, by decide⟩ dX1_reckon_184 (fun r_134 hr_134 => ?_)
                        subst hr_134
                        refine lv_iconst (v := 3) hx hb dX1_reckon_187 (by decide) ?_
                        refine g_callMl S hs (tX1_put l t D m0 m1 m2 cJ cI ((0 : Int32), u.2.1, u.2.2) r (0 : Int32) (kproduct (jX1_size (u.2.1 a.toNatClampNeg)) (jX1_size (u.2.1 b.toNatClampNeg))) (3 : Int32) (out_in (by assumption))) rfl ml_X1_43 im_yX1_put se_yX1_put cd_yX1_put hd_yX1_put ⟨by decide, by decide⟩ hE hS hA hP hK hD hl.1 rfl (Nat.le_of_ble_eq_true rfl) ⟨by decide, by decide⟩ dX1_reckon_188 (fun r_135 u_135 H locs hr_135 hP hD hS => ?_)
                        obtain ⟨rfl, rfl⟩ := hr_135
                        exact W.lret (v := (kput ((0 : Int32), u.2.1, u.2.2) r (0 : Int32) (kproduct (jX1_size (u.2.1 a.toNatClampNeg)) (jX1_size (u.2.1 b.toNatClampNeg))) (3 : Int32)).1) hx hb hr (fun t9 ht9 hW9 => ⟨⟨(kput ((0 : Int32), u.2.1, u.2.2) r (0 : Int32) (kproduct (jX1_size (u.2.1 a.toNatClampNeg)) (jX1_size (u.2.1 b.toNatClampNeg))) (3 : Int32)).1, (kput ((0 : Int32), u.2.1, u.2.2) r (0 : Int32) (kproduct (jX1_size (u.2.1 a.toNatClampNeg)) (jX1_size (u.2.1 b.toNatClampNeg))) (3 : Int32)).2, rfl, (⟨by rw [kreckon, if_pos c_2, if_neg c_4, if_neg c_6, if_pos c_9, if_pos c_12, if_neg c_13, if_neg c_53, if_pos c_54, if_neg c_55, if_neg c_96, if_pos c_118], by rw [kreckon, if_pos c_2, if_neg c_4, if_neg c_6, if_pos c_9, if_pos c_12, if_neg c_13, if_neg c_53, if_pos c_54, if_neg c_55, if_neg c_96, if_pos c_118]⟩), by rw [ht9]; exact hP, va_K.moved hW9.alike hK, hD⟩, hS.F ht9⟩) hS.2.2 dX1_reckon_191 hlocks
                · refine lv_iload_n hx hb dX1_reckon_87 rfl (lv_at hl 4 rfl) ?_
                  refine lv_if_ne (tgt := 99) hx hb dX1_reckon_88 (by decide) (fun c_136 => ?_) (fun c_136 => ?_)
                  · refine lv_lload hx hb dX1_reckon_99 (lv_at hl 1 rfl) ?_
                    refine lv_lload hx hb dX1_reckon_101 (lv_at hl 0 rfl) ?_
                    refine lv_lsub hx hb dX1_reckon_103 ?_
                    refine lv_lstore (lv' := [(9, .long ((u.2.1 a.toNatClampNeg) - (u.2.1 b.toNatClampNeg))), (7, .long (u.2.1 b.toNatClampNeg)), (5, .long (u.2.1 a.toNatClampNeg)), (0, .ref m0), (1, .int r), (2, .int op), (3, .int a), (4, .int b)]) hx hb dX1_reckon_104 hl (by decide) rfl (fun ls hl => ?_)
                    refine lv_aload_n hx hb dX1_reckon_106 rfl (lv_at hl 3 rfl) ?_
                    refine lv_iload_n hx hb dX1_reckon_107 rfl (lv_at hl 4 rfl) ?_
                    refine lv_lload hx hb dX1_reckon_108 (lv_at hl 0 rfl) ?_
                    refine lv_lconst (v := 0) hx hb dX1_reckon_110 (by decide) ?_
                    refine g_lc_ge (tgt := 119) hx hb dX1_reckon_111 dX1_reckon_112 (by decide) (fun c_137 => ?_) (fun c_137 => ?_)
                    · refine lv_iconst (v := 0) hx hb dX1_reckon_119 (by decide) ?_
                      refine lv_lload hx hb dX1_reckon_120 (lv_at hl 0 rfl) ?_
                      refine g_callSl S hs (tX1_size l t ((u.2.1 a.toNatClampNeg) - (u.2.1 b.toNatClampNeg))) ml_X1_39 st_yX1_size in_X1 cd_yX1_size hd_yX1_size ⟨by decide, by decide⟩ hE hS hA hl.1 rfl (Nat.le_of_ble_eq_true rfl) ⟨by decide, by decide⟩ dX1_reckon_122 (fun r_138 hr_138 => ?_)
                      subst hr_138
                      refine lv_iconst (v := 3) hx hb dX1_reckon_125 (by decide) ?_
                      refine g_callMl S hs (tX1_put l t D m0 m1 m2 cJ cI ((0 : Int32), u.2.1, u.2.2) r (0 : Int32) (jX1_size ((u.2.1 a.toNatClampNeg) - (u.2.1 b.toNatClampNeg))) (3 : Int32) (out_in (by assumption))) rfl ml_X1_43 im_yX1_put se_yX1_put cd_yX1_put hd_yX1_put ⟨by decide, by decide⟩ hE hS hA hP hK hD hl.1 rfl (Nat.le_of_ble_eq_true rfl) ⟨by decide, by decide⟩ dX1_reckon_126 (fun r_139 u_139 H locs hr_139 hP hD hS => ?_)
                      obtain ⟨rfl, rfl⟩ := hr_139
                      exact W.lret (v := (kput ((0 : Int32), u.2.1, u.2.2) r (0 : Int32) (jX1_size ((u.2.1 a.toNatClampNeg) - (u.2.1 b.toNatClampNeg))) (3 : Int32)).1) hx hb hr (fun t9 ht9 hW9 => ⟨⟨(kput ((0 : Int32), u.2.1, u.2.2) r (0 : Int32) (jX1_size ((u.2.1 a.toNatClampNeg) - (u.2.1 b.toNatClampNeg))) (3 : Int32)).1, (kput ((0 : Int32), u.2.1, u.2.2) r (0 : Int32) (jX1_size ((u.2.1 a.toNatClampNeg) - (u.2.1 b.toNatClampNeg))) (3 : Int32)).2, rfl, (⟨by rw [kreckon, if_pos c_2, if_neg c_4, if_neg c_6, if_pos c_9, if_pos c_12, if_neg c_13, if_neg c_53, if_neg c_54, if_neg c_136, if_pos c_137], by rw [kreckon, if_pos c_2, if_neg c_4, if_neg c_6, if_pos c_9, if_pos c_12, if_neg c_13, if_neg c_53, if_neg c_54, if_neg c_136, if_pos c_137]⟩), by rw [ht9]; exact hP, va_K.moved hW9.alike hK, hD⟩, hS.F ht9⟩) hS.2.2 dX1_reckon_129 hlocks
                    · refine lv_iconst (v := 1) hx hb dX1_reckon_115 (by decide) ?_
                      refine lv_goto (tgt := 120) hx hb dX1_reckon_116 (by decide) ?_
                      refine lv_lload hx hb dX1_reckon_120 (lv_at hl 0 rfl) ?_
                      refine g_callSl S hs (tX1_size l t ((u.2.1 a.toNatClampNeg) - (u.2.1 b.toNatClampNeg))) ml_X1_39 st_yX1_size in_X1 cd_yX1_size hd_yX1_size ⟨by decide, by decide⟩ hE hS hA hl.1 rfl (Nat.le_of_ble_eq_true rfl) ⟨by decide, by decide⟩ dX1_reckon_122 (fun r_140 hr_140 => ?_)
                      subst hr_140
                      refine lv_iconst (v := 3) hx hb dX1_reckon_125 (by decide) ?_
                      refine g_callMl S hs (tX1_put l t D m0 m1 m2 cJ cI ((0 : Int32), u.2.1, u.2.2) r (1 : Int32) (jX1_size ((u.2.1 a.toNatClampNeg) - (u.2.1 b.toNatClampNeg))) (3 : Int32) (out_in (by assumption))) rfl ml_X1_43 im_yX1_put se_yX1_put cd_yX1_put hd_yX1_put ⟨by decide, by decide⟩ hE hS hA hP hK hD hl.1 rfl (Nat.le_of_ble_eq_true rfl) ⟨by decide, by decide⟩ dX1_reckon_126 (fun r_141 u_141 H locs hr_141 hP hD hS => ?_)
                      obtain ⟨rfl, rfl⟩ := hr_141
                      exact W.lret (v := (kput ((0 : Int32), u.2.1, u.2.2) r (1 : Int32) (jX1_size ((u.2.1 a.toNatClampNeg) - (u.2.1 b.toNatClampNeg))) (3 : Int32)).1) hx hb hr (fun t9 ht9 hW9 => ⟨⟨(kput ((0 : Int32), u.2.1, u.2.2) r (1 : Int32) (jX1_size ((u.2.1 a.toNatClampNeg) - (u.2.1 b.toNatClampNeg))) (3 : Int32)).1, (kput ((0 : Int32), u.2.1, u.2.2) r (1 : Int32) (jX1_size ((u.2.1 a.toNatClampNeg) - (u.2.1 b.toNatClampNeg))) (3 : Int32)).2, rfl, (⟨by rw [kreckon, if_pos c_2, if_neg c_4, if_neg c_6, if_pos c_9, if_pos c_12, if_neg c_13, if_neg c_53, if_neg c_54, if_neg c_136, if_neg c_137], by rw [kreckon, if_pos c_2, if_neg c_4, if_neg c_6, if_pos c_9, if_pos c_12, if_neg c_13, if_neg c_53, if_neg c_54, if_neg c_136, if_neg c_137]⟩), by rw [ht9]; exact hP, va_K.moved hW9.alike hK, hD⟩, hS.F ht9⟩) hS.2.2 dX1_reckon_129 hlocks
                  · refine lv_lload hx hb dX1_reckon_91 (lv_at hl 1 rfl) ?_
                    refine lv_lload hx hb dX1_reckon_93 (lv_at hl 0 rfl) ?_
                    refine lv_ladd hx hb dX1_reckon_95 ?_
                    refine lv_goto (tgt := 104) hx hb dX1_reckon_96 (by decide) ?_
                    refine lv_lstore (lv' := [(9, .long ((u.2.1 a.toNatClampNeg) + (u.2.1 b.toNatClampNeg))), (7, .long (u.2.1 b.toNatClampNeg)), (5, .long (u.2.1 a.toNatClampNeg)), (0, .ref m0), (1, .int r), (2, .int op), (3, .int a), (4, .int b)]) hx hb dX1_reckon_104 hl (by decide) rfl (fun ls hl => ?_)
                    refine lv_aload_n hx hb dX1_reckon_106 rfl (lv_at hl 3 rfl) ?_
                    refine lv_iload_n hx hb dX1_reckon_107 rfl (lv_at hl 4 rfl) ?_
                    refine lv_lload hx hb dX1_reckon_108 (lv_at hl 0 rfl) ?_
                    refine lv_lconst (v := 0) hx hb dX1_reckon_110 (by decide) ?_
                    refine g_lc_ge (tgt := 119) hx hb dX1_reckon_111 dX1_reckon_112 (by decide) (fun c_142 => ?_) (fun c_142 => ?_)
                    · refine lv_iconst (v := 0) hx hb dX1_reckon_119 (by decide) ?_
                      refine lv_lload hx hb dX1_reckon_120 (lv_at hl 0 rfl) ?_
                      refine g_callSl S hs (tX1_size l t ((u.2.1 a.toNatClampNeg) + (u.2.1 b.toNatClampNeg))) ml_X1_39 st_yX1_size in_X1 cd_yX1_size hd_yX1_size ⟨by decide, by decide⟩ hE hS hA hl.1 rfl (Nat.le_of_ble_eq_true rfl) ⟨by decide, by decide⟩ dX1_reckon_122 (fun r_143 hr_143 => ?_)
                      subst hr_143
                      refine lv_iconst (v := 3) hx hb dX1_reckon_125 (by decide) ?_
                      refine g_callMl S hs (tX1_put l t D m0 m1 m2 cJ cI ((0 : Int32), u.2.1, u.2.2) r (0 : Int32) (jX1_size ((u.2.1 a.toNatClampNeg) + (u.2.1 b.toNatClampNeg))) (3 : Int32) (out_in (by assumption))) rfl ml_X1_43 im_yX1_put se_yX1_put cd_yX1_put hd_yX1_put ⟨by decide, by decide⟩ hE hS hA hP hK hD hl.1 rfl (Nat.le_of_ble_eq_true rfl) ⟨by decide, by decide⟩ dX1_reckon_126 (fun r_144 u_144 H locs hr_144 hP hD hS => ?_)
                      obtain ⟨rfl, rfl⟩ := hr_144
                      exact W.lret (v := (kput ((0 : Int32), u.2.1, u.2.2) r (0 : Int32) (jX1_size ((u.2.1 a.toNatClampNeg) + (u.2.1 b.toNatClampNeg))) (3 : Int32)).1) hx hb hr (fun t9 ht9 hW9 => ⟨⟨(kput ((0 : Int32), u.2.1, u.2.2) r (0 : Int32) (jX1_size ((u.2.1 a.toNatClampNeg) + (u.2.1 b.toNatClampNeg))) (3 : Int32)).1, (kput ((0 : Int32), u.2.1, u.2.2) r (0 : Int32) (jX1_size ((u.2.1 a.toNatClampNeg) + (u.2.1 b.toNatClampNeg))) (3 : Int32)).2, rfl, (⟨by rw [kreckon, if_pos c_2, if_neg c_4, if_neg c_6, if_pos c_9, if_pos c_12, if_neg c_13, if_neg c_53, if_neg c_54, if_pos c_136, if_pos c_142], by rw [kreckon, if_pos c_2, if_neg c_4, if_neg c_6, if_pos c_9, if_pos c_12, if_neg c_13, if_neg c_53, if_neg c_54, if_pos c_136, if_pos c_142]⟩), by rw [ht9]; exact hP, va_K.moved hW9.alike hK, hD⟩, hS.F ht9⟩) hS.2.2 dX1_reckon_129 hlocks
                    · refine lv_iconst (v := 1) hx hb dX1_reckon_115 (by decide) ?_
                      refine lv_goto (tgt := 120) hx hb dX1_reckon_116 (by decide) ?_
                      refine lv_lload hx hb dX1_reckon_120 (lv_at hl 0 rfl) ?_
                      refine g_callSl S hs (tX1_size l t ((u.2.1 a.toNatClampNeg) + (u.2.1 b.toNatClampNeg))) ml_X1_39 st_yX1_size in_X1 cd_yX1_size hd_yX1_size ⟨by decide, by decide⟩ hE hS hA hl.1 rfl (Nat.le_of_ble_eq_true rfl) ⟨by decide, by decide⟩ dX1_reckon_122 (fun r_145 hr_145 => ?_)
                      subst hr_145
                      refine lv_iconst (v := 3) hx hb dX1_reckon_125 (by decide) ?_
                      refine g_callMl S hs (tX1_put l t D m0 m1 m2 cJ cI ((0 : Int32), u.2.1, u.2.2) r (1 : Int32) (jX1_size ((u.2.1 a.toNatClampNeg) + (u.2.1 b.toNatClampNeg))) (3 : Int32) (out_in (by assumption))) rfl ml_X1_43 im_yX1_put se_yX1_put cd_yX1_put hd_yX1_put ⟨by decide, by decide⟩ hE hS hA hP hK hD hl.1 rfl (Nat.le_of_ble_eq_true rfl) ⟨by decide, by decide⟩ dX1_reckon_126 (fun r_146 u_146 H locs hr_146 hP hD hS => ?_)
                      obtain ⟨rfl, rfl⟩ := hr_146
                      exact W.lret (v := (kput ((0 : Int32), u.2.1, u.2.2) r (1 : Int32) (jX1_size ((u.2.1 a.toNatClampNeg) + (u.2.1 b.toNatClampNeg))) (3 : Int32)).1) hx hb hr (fun t9 ht9 hW9 => ⟨⟨(kput ((0 : Int32), u.2.1, u.2.2) r (1 : Int32) (jX1_size ((u.2.1 a.toNatClampNeg) + (u.2.1 b.toNatClampNeg))) (3 : Int32)).1, (kput ((0 : Int32), u.2.1, u.2.2) r (1 : Int32) (jX1_size ((u.2.1 a.toNatClampNeg) + (u.2.1 b.toNatClampNeg))) (3 : Int32)).2, rfl, (⟨by rw [kreckon, if_pos c_2, if_neg c_4, if_neg c_6, if_pos c_9, if_pos c_12, if_neg c_13, if_neg c_53, if_neg c_54, if_pos c_136, if_neg c_142], by rw [kreckon, if_pos c_2, if_neg c_4, if_neg c_6, if_pos c_9, if_pos c_12, if_neg c_13, if_neg c_53, if_neg c_54, if_pos c_136, if_neg c_142]⟩), by rw [ht9]; exact hP, va_K.moved hW9.alike hK, hD⟩, hS.F ht9⟩) hS.2.2 dX1_reckon_129 hlocks
              · refine lv_aload_n hx hb dX1_reckon_75 rfl (lv_at hl 2 rfl) ?_
                refine lv_iconst (v := 2) hx hb dX1_reckon_76 (by decide) ?_
                refine g_callMi S hs (tX1_fail l t D m0 m1 m2 cJ cI ((0 : Int32), u.2.1, u.2.2) (2 : Int32)) rfl ml_X1_29 im_yX1_fail se_yX1_fail cd_yX1_fail hd_yX1_fail ⟨by decide, by decide⟩ hE hS hA hP hK hD hl.1 rfl (Nat.le_of_ble_eq_true rfl) ⟨by decide, by decide⟩ dX1_reckon_77 (fun r_147 u_147 H locs hr_147 hP hD hS => ?_)
                obtain ⟨rfl, rfl⟩ := hr_147
                refine lv_i2l hx hb dX1_reckon_80 rfl ?_
                exact W.lret (v := ((kfail ((0 : Int32), u.2.1, u.2.2) (2 : Int32)).1).toInt64) hx hb hr (fun t9 ht9 hW9 => ⟨⟨((kfail ((0 : Int32), u.2.1, u.2.2) (2 : Int32)).1).toInt64, (kfail ((0 : Int32), u.2.1, u.2.2) (2 : Int32)).2, rfl, (⟨by rw [kreckon, if_pos c_2, if_neg c_4, if_neg c_6, if_pos c_9, if_pos c_12, if_neg c_13, if_pos c_53], by rw [kreckon, if_pos c_2, if_neg c_4, if_neg c_6, if_pos c_9, if_pos c_12, if_neg c_13, if_pos c_53]⟩), by rw [ht9]; exact hP, va_K.moved hW9.alike hK, hD⟩, hS.F ht9⟩) hS.2.2 dX1_reckon_81 hlocks
          · refine lv_aload_n hx hb dX1_reckon_39 rfl (lv_at hl 0 rfl) ?_
            refine lv_iconst (v := 1) hx hb dX1_reckon_40 (by decide) ?_
            refine g_callMi S hs (tX1_fail l t D m0 m1 m2 cJ cI ((0 : Int32), u.2.1, u.2.2) (1 : Int32)) rfl ml_X1_29 im_yX1_fail se_yX1_fail cd_yX1_fail hd_yX1_fail ⟨by decide, by decide⟩ hE hS hA hP hK hD hl.1 rfl (Nat.le_of_ble_eq_true rfl) ⟨by decide, by decide⟩ dX1_reckon_41 (fun r_148 u_148 H locs hr_148 hP hD hS => ?_)
            obtain ⟨rfl, rfl⟩ := hr_148
            refine lv_i2l hx hb dX1_reckon_44 rfl ?_
            exact W.lret (v := ((kfail ((0 : Int32), u.2.1, u.2.2) (1 : Int32)).1).toInt64) hx hb hr (fun t9 ht9 hW9 => ⟨⟨((kfail ((0 : Int32), u.2.1, u.2.2) (1 : Int32)).1).toInt64, (kfail ((0 : Int32), u.2.1, u.2.2) (1 : Int32)).2, rfl, (⟨by rw [kreckon, if_pos c_2, if_neg c_4, if_neg c_6, if_pos c_9, if_neg c_12], by rw [kreckon, if_pos c_2, if_neg c_4, if_neg c_6, if_pos c_9, if_neg c_12]⟩), by rw [ht9]; exact hP, va_K.moved hW9.alike hK, hD⟩, hS.F ht9⟩) hS.2.2 dX1_reckon_45 hlocks
def kturn (u : mS) (r : Int32) (op : Int32) (a : Int32) : Int64 × mS :=
  if (kout r) = (0 : Int32) then
    if op < (0 : Int32) then
      (((kfail ((0 : Int32), u.2.1, u.2.2) (1 : Int32)).1).toInt64, (kfail ((0 : Int32), u.2.1, u.2.2) (1 : Int32)).2)
    else if (3 : Int32) < op then
      (((kfail ((0 : Int32), u.2.1, u.2.2) (1 : Int32)).1).toInt64, (kfail ((0 : Int32), u.2.1, u.2.2) (1 : Int32)).2)
    else if (kout a) = (0 : Int32) then
      if op = (0 : Int32) then
        if (0 : Int64) ≤ (u.2.1 a.toNatClampNeg) then
          ((kput ((0 : Int32), u.2.1, u.2.2) r (0 : Int32) (((jX1_size (u.2.1 a.toNatClampNeg)) + (50 : Int64)) / (100 : Int64)) (2 : Int32)).1, (kput ((0 : Int32), u.2.1, u.2.2) r (0 : Int32) (((jX1_size (u.2.1 a.toNatClampNeg)) + (50 : Int64)) / (100 : Int64)) (2 : Int32)).2)
        else ((kput ((0 : Int32), u.2.1, u.2.2) r (1 : Int32) (((jX1_size (u.2.1 a.toNatClampNeg)) + (50 : Int64)) / (100 : Int64)) (2 : Int32)).1, (kput ((0 : Int32), u.2.1, u.2.2) r (1 : Int32) (((jX1_size (u.2.1 a.toNatClampNeg)) + (50 : Int64)) / (100 : Int64)) (2 : Int32)).2)
      else if op = (2 : Int32) then
        ((kput ((0 : Int32), u.2.1, u.2.2) r (0 : Int32) (jX1_size (u.2.1 a.toNatClampNeg)) (2 : Int32)).1, (kput ((0 : Int32), u.2.1, u.2.2) r (0 : Int32) (jX1_size (u.2.1 a.toNatClampNeg)) (2 : Int32)).2)
      else if op = (3 : Int32) then
        if (u.2.1 a.toNatClampNeg) ≤ (0 : Int64) then
          ((kput ((0 : Int32), u.2.1, u.2.2) r (0 : Int32) (jX1_size (u.2.1 a.toNatClampNeg)) (2 : Int32)).1, (kput ((0 : Int32), u.2.1, u.2.2) r (0 : Int32) (jX1_size (u.2.1 a.toNatClampNeg)) (2 : Int32)).2)
        else ((kput ((0 : Int32), u.2.1, u.2.2) r (1 : Int32) (jX1_size (u.2.1 a.toNatClampNeg)) (2 : Int32)).1, (kput ((0 : Int32), u.2.1, u.2.2) r (1 : Int32) (jX1_size (u.2.1 a.toNatClampNeg)) (2 : Int32)).2)
      else if (0 : Int64) ≤ (u.2.1 a.toNatClampNeg) then
        ((kput ((0 : Int32), u.2.1, u.2.2) r (0 : Int32) (((jX1_size (u.2.1 a.toNatClampNeg)) / (10000 : Int64)) * (10000 : Int64)) (2 : Int32)).1, (kput ((0 : Int32), u.2.1, u.2.2) r (0 : Int32) (((jX1_size (u.2.1 a.toNatClampNeg)) / (10000 : Int64)) * (10000 : Int64)) (2 : Int32)).2)
      else if (jX1_size (u.2.1 a.toNatClampNeg)) ≤ (((jX1_size (u.2.1 a.toNatClampNeg)) / (10000 : Int64)) * (10000 : Int64)) then
        ((kput ((0 : Int32), u.2.1, u.2.2) r (1 : Int32) (((jX1_size (u.2.1 a.toNatClampNeg)) / (10000 : Int64)) * (10000 : Int64)) (2 : Int32)).1, (kput ((0 : Int32), u.2.1, u.2.2) r (1 : Int32) (((jX1_size (u.2.1 a.toNatClampNeg)) / (10000 : Int64)) * (10000 : Int64)) (2 : Int32)).2)
      else ((kput ((0 : Int32), u.2.1, u.2.2) r (1 : Int32) ((((jX1_size (u.2.1 a.toNatClampNeg)) / (10000 : Int64)) * (10000 : Int64)) + (10000 : Int64)) (2 : Int32)).1, (kput ((0 : Int32), u.2.1, u.2.2) r (1 : Int32) ((((jX1_size (u.2.1 a.toNatClampNeg)) / (10000 : Int64)) * (10000 : Int64)) + (10000 : Int64)) (2 : Int32)).2)
    else (((kfail ((0 : Int32), u.2.1, u.2.2) (1 : Int32)).1).toInt64, (kfail ((0 : Int32), u.2.1, u.2.2) (1 : Int32)).2)
  else (((kfail ((0 : Int32), u.2.1, u.2.2) (1 : Int32)).1).toInt64, (kfail ((0 : Int32), u.2.1, u.2.2) (1 : Int32)).2)
set_option maxHeartbeats 4000000 in
set_option maxRecDepth 100000 in
theorem tX1_turn (l : Launch) (t : Nat) (D : va_G) (m0 m1 m2 : Nat) (cJ cI : ClassId) (u : mS) (r : Int32) (op : Int32) (a : Int32) : gMl l yX1_turn cX1_turn 8 { frames := 2, cells := 0, slots := 0, locals := 60 } t D m0 m1 m2 cJ cI u [.int r, .int op, .int a] (fun z9 u9 => z9 = (kturn u r op a).1 ∧ u9 = (kturn u r op a).2) := by
  refine g_openMl (by decide +kernel) (Nat.le_of_ble_eq_true rfl) ?_
  intro p e s m below meth c ls A hA S hr hlocks hE hP hK hD hl
  obtain ⟨hx, hb, hml, hown, hts⟩ := id S
  have hs : ∀ w ∈ gws, w ∈ Cond.code yX1_turn cX1_turn 8 (some .long) :: gws := fun w h => List.mem_cons_of_mem _ h
  have hS : va_S A s.heap s.heap [] := va_S.rf
  have hl : lv_has ls 8 [(0, .ref m0), (1, .int r), (2, .int op), (3, .int a)] := hl
  refine lv_aload_n hx hb dX1_turn_0 rfl (lv_at hl 0 rfl) ?_
  refine lv_iconst (v := 0) hx hb dX1_turn_1 (by decide) ?_
  refine va_put (ci := 1) (v := .int (0 : Int32)) (ty := .int) (C := RX1) (T := TX1) (N := 3) hx hb hts (fun w h => hs _ (inX1g w h)) tyX1 tyX1_ok nmX1 hown hK hP hD hS 0 rfl rfl 0 (by decide) (hts _ (hs _ fl_X1_17)) (fun _ h9 => h9) rfl (by decide +kernel) rfl rfl (Nat.le_of_ble_eq_true rfl) dX1_turn_2 (fun H locs hP hD hS => ?_)
  have hP : va_P D vwCl (wM m0 m1 m2 cJ cI ((0 : Int32), u.2.1, u.2.2)) H := hP
  have hD : va_D A (wM m0 m1 m2 cJ cI ((0 : Int32), u.2.1, u.2.2)) := hD
  refine lv_aload_n hx hb dX1_turn_5 rfl (lv_at hl 0 rfl) ?_
  refine lv_iload_n hx hb dX1_turn_6 rfl (lv_at hl 1 rfl) ?_
  refine g_callPi S hs (tX1_out l m0 r) (va_recv hK hP (ci := 1) (q0 := 0) rfl rfl) ml_X1_21 im_yX1_out se_yX1_out in_X1 cd_yX1_out hd_yX1_out ⟨by decide, by decide⟩ hl.1 rfl (Nat.le_of_ble_eq_true rfl) ⟨by decide, by decide⟩ dX1_turn_7 (fun r_1 hr_1 => ?_)
  subst hr_1
  refine lv_if_ne (tgt := 30) hx hb dX1_turn_10 (by decide) (fun c_2 => ?_) (fun c_2 => ?_)
  · refine lv_aload_n hx hb dX1_turn_30 rfl (lv_at hl 0 rfl) ?_
    refine lv_iconst (v := 1) hx hb dX1_turn_31 (by decide) ?_
    refine g_callMi S hs (tX1_fail l t D m0 m1 m2 cJ cI ((0 : Int32), u.2.1, u.2.2) (1 : Int32)) rfl ml_X1_29 im_yX1_fail se_yX1_fail cd_yX1_fail hd_yX1_fail ⟨by decide, by decide⟩ hE hS hA hP hK hD hl.1 rfl (Nat.le_of_ble_eq_true rfl) ⟨by decide, by decide⟩ dX1_turn_32 (fun r_3 u_3 H locs hr_3 hP hD hS => ?_)
    obtain ⟨rfl, rfl⟩ := hr_3
    refine lv_i2l hx hb dX1_turn_35 rfl ?_
    exact W.lret (v := ((kfail ((0 : Int32), u.2.1, u.2.2) (1 : Int32)).1).toInt64) hx hb hr (fun t9 ht9 hW9 => ⟨⟨((kfail ((0 : Int32), u.2.1, u.2.2) (1 : Int32)).1).toInt64, (kfail ((0 : Int32), u.2.1, u.2.2) (1 : Int32)).2, rfl, (⟨by rw [kturn, if_neg c_2], by rw [kturn, if_neg c_2]⟩), by rw [ht9]; exact hP, va_K.moved hW9.alike hK, hD⟩, hS.F ht9⟩) hS.2.2 dX1_turn_36 hlocks
  · refine lv_iload_n hx hb dX1_turn_13 rfl (lv_at hl 2 rfl) ?_
    refine lv_if_lt (tgt := 30) hx hb dX1_turn_14 (by decide) (fun c_4 => ?_) (fun c_4 => ?_)
    · refine lv_aload_n hx hb dX1_turn_30 rfl (lv_at hl 0 rfl) ?_
      refine lv_iconst (v := 1) hx hb dX1_turn_31 (by decide) ?_
      refine g_callMi S hs (tX1_fail l t D m0 m1 m2 cJ cI ((0 : Int32), u.2.1, u.2.2) (1 : Int32)) rfl ml_X1_29 im_yX1_fail se_yX1_fail cd_yX1_fail hd_yX1_fail ⟨by decide, by decide⟩ hE hS hA hP hK hD hl.1 rfl (Nat.le_of_ble_eq_true rfl) ⟨by decide, by decide⟩ dX1_turn_32 (fun r_5 u_5 H locs hr_5 hP hD hS => ?_)
      obtain ⟨rfl, rfl⟩ := hr_5
      refine lv_i2l hx hb dX1_turn_35 rfl ?_
      exact W.lret (v := ((kfail ((0 : Int32), u.2.1, u.2.2) (1 : Int32)).1).toInt64) hx hb hr (fun t9 ht9 hW9 => ⟨⟨((kfail ((0 : Int32), u.2.1, u.2.2) (1 : Int32)).1).toInt64, (kfail ((0 : Int32), u.2.1, u.2.2) (1 : Int32)).2, rfl, (⟨by rw [kturn, if_pos c_2, if_pos c_4], by rw [kturn, if_pos c_2, if_pos c_4]⟩), by rw [ht9]; exact hP, va_K.moved hW9.alike hK, hD⟩, hS.F ht9⟩) hS.2.2 dX1_turn_36 hlocks
    · refine lv_iload_n hx hb dX1_turn_17 rfl (lv_at hl 2 rfl) ?_
      refine lv_iconst (v := 3) hx hb dX1_turn_18 (by decide) ?_
      refine lv_icmp_gt (tgt := 30) hx hb dX1_turn_19 (by decide) (fun c_6 => ?_) (fun c_6 => ?_)
      · refine lv_aload_n hx hb dX1_turn_30 rfl (lv_at hl 0 rfl) ?_
        refine lv_iconst (v := 1) hx hb dX1_turn_31 (by decide) ?_
        refine g_callMi S hs (tX1_fail l t D m0 m1 m2 cJ cI ((0 : Int32), u.2.1, u.2.2) (1 : Int32)) rfl ml_X1_29 im_yX1_fail se_yX1_fail cd_yX1_fail hd_yX1_fail ⟨by decide, by decide⟩ hE hS hA hP hK hD hl.1 rfl (Nat.le_of_ble_eq_true rfl) ⟨by decide, by decide⟩ dX1_turn_32 (fun r_7 u_7 H locs hr_7 hP hD hS => ?_)
        obtain ⟨rfl, rfl⟩ := hr_7
        refine lv_i2l hx hb dX1_turn_35 rfl ?_
        exact W.lret (v := ((kfail ((0 : Int32), u.2.1, u.2.2) (1 : Int32)).1).toInt64) hx hb hr (fun t9 ht9 hW9 => ⟨⟨((kfail ((0 : Int32), u.2.1, u.2.2) (1 : Int32)).1).toInt64, (kfail ((0 : Int32), u.2.1, u.2.2) (1 : Int32)).2, rfl, (⟨by rw [kturn, if_pos c_2, if_neg c_4, if_pos c_6], by rw [kturn, if_pos c_2, if_neg c_4, if_pos c_6]⟩), by rw [ht9]; exact hP, va_K.moved hW9.alike hK, hD⟩, hS.F ht9⟩) hS.2.2 dX1_turn_36 hlocks
      · refine lv_aload_n hx hb dX1_turn_22 rfl (lv_at hl 0 rfl) ?_
        refine lv_iload_n hx hb dX1_turn_23 rfl (lv_at hl 3 rfl) ?_
        refine g_callPi S hs (tX1_out l m0 a) (va_recv hK hP (ci := 1) (q0 := 0) rfl rfl) ml_X1_21 im_yX1_out se_yX1_out in_X1 cd_yX1_out hd_yX1_out ⟨by decide, by decide⟩ hl.1 rfl (Nat.le_of_ble_eq_true rfl) ⟨by decide, by decide⟩ dX1_turn_24 (fun r_8 hr_8 => ?_)
        subst hr_8
        refine lv_if_eq (tgt := 37) hx hb dX1_turn_27 (by decide) (fun c_9 => ?_) (fun c_9 => ?_)
        · refine lv_aload_n hx hb dX1_turn_37 rfl (lv_at hl 0 rfl) ?_
          refine va_get (ci := 1) (v := .ref m1) (C := RX1) (T := TX1) (N := 3) hx hb hts (fun w h => hs _ (inX1g w h)) hown hK hP 0 rfl rfl 1 (by decide) (hts _ (hs _ fl_X1_7)) (fun _ h9 => h9) rfl dX1_turn_38 ?_
          refine lv_iload_n hx hb dX1_turn_41 rfl (lv_at hl 3 rfl) ?_
          refine va_lald hx hb hK hP 1 0 rfl rfl (out_in c_9) dX1_turn_42 ?_
          refine lv_lstore (lv' := [(4, .long (u.2.1 a.toNatClampNeg)), (0, .ref m0), (1, .int r), (2, .int op), (3, .int a)]) hx hb dX1_turn_43 hl (by decide) rfl (fun ls hl => ?_)
          refine lv_iload_n hx hb dX1_turn_45 rfl (lv_at hl 3 rfl) ?_
          refine lv_if_ne (tgt := 81) hx hb dX1_turn_46 (by decide) (fun c_10 => ?_) (fun c_10 => ?_)
          · refine lv_iload_n hx hb dX1_turn_81 rfl (lv_at hl 3 rfl) ?_
            refine lv_iconst (v := 2) hx hb dX1_turn_82 (by decide) ?_
            refine lv_icmp_ne (tgt := 99) hx hb dX1_turn_83 (by decide) (fun c_11 => ?_) (fun c_11 => ?_)
            · refine lv_iload_n hx hb dX1_turn_99 rfl (lv_at hl 3 rfl) ?_
              refine lv_iconst (v := 3) hx hb dX1_turn_100 (by decide) ?_
              refine lv_icmp_ne (tgt := 128) hx hb dX1_turn_101 (by decide) (fun c_12 => ?_) (fun c_12 => ?_)
              · refine lv_lload hx hb dX1_turn_128 (lv_at hl 0 rfl) ?_
                refine g_callSl S hs (tX1_size l t (u.2.1 a.toNatClampNeg)) ml_X1_39 st_yX1_size in_X1 cd_yX1_size hd_yX1_size ⟨by decide, by decide⟩ hE hS hA hl.1 rfl (Nat.le_of_ble_eq_true rfl) ⟨by decide, by decide⟩ dX1_turn_130 (fun r_13 hr_13 => ?_)
                subst hr_13
                refine lv_ldc2 hx hb hown (hts _ (hs _ kl_X1_33)) dX1_turn_133 ?_
                refine lv_ldiv hx hb dX1_turn_136 (by decide) ?_
                refine lv_ldc2 hx hb hown (hts _ (hs _ kl_X1_33)) dX1_turn_137 ?_
                refine lv_lmul hx hb dX1_turn_140 ?_
                refine lv_lstore (lv' := [(6, .long (((jX1_size (u.2.1 a.toNatClampNeg)) / (10000 : Int64)) * (10000 : Int64))), (4, .long (u.2.1 a.toNatClampNeg)), (0, .ref m0), (1, .int r), (2, .int op), (3, .int a)]) hx hb dX1_turn_141 hl (by decide) rfl (fun ls hl => ?_)
                refine lv_lload hx hb dX1_turn_143 (lv_at hl 1 rfl) ?_
                refine lv_lconst (v := 0) hx hb dX1_turn_145 (by decide) ?_
                refine g_lc_ge (tgt := 169) hx hb dX1_turn_146 dX1_turn_147 (by decide) (fun c_14 => ?_) (fun c_14 => ?_)
                · refine lv_aload_n hx hb dX1_turn_169 rfl (lv_at hl 2 rfl) ?_
                  refine lv_iload_n hx hb dX1_turn_170 rfl (lv_at hl 3 rfl) ?_
                  refine lv_lload hx hb dX1_turn_171 (lv_at hl 1 rfl) ?_
                  refine lv_lconst (v := 0) hx hb dX1_turn_173 (by decide) ?_
                  refine g_lc_ge (tgt := 182) hx hb dX1_turn_174 dX1_turn_175 (by decide) (fun c_15 => ?_) (fun c_15 => absurd (c_14) c_15)
                  refine lv_iconst (v := 0) hx hb dX1_turn_182 (by decide) ?_
                  refine lv_lload hx hb dX1_turn_183 (lv_at hl 0 rfl) ?_
                  refine lv_iconst (v := 2) hx hb dX1_turn_185 (by decide) ?_
                  refine g_callMl S hs (tX1_put l t D m0 m1 m2 cJ cI ((0 : Int32), u.2.1, u.2.2) r (0 : Int32) (((jX1_size (u.2.1 a.toNatClampNeg)) / (10000 : Int64)) * (10000 : Int64)) (2 : Int32) (out_in (by assumption))) rfl ml_X1_43 im_yX1_put se_yX1_put cd_yX1_put hd_yX1_put ⟨by decide, by decide⟩ hE hS hA hP hK hD hl.1 rfl (Nat.le_of_ble_eq_true rfl) ⟨by decide, by decide⟩ dX1_turn_186 (fun r_16 u_16 H locs hr_16 hP hD hS => ?_)
                  obtain ⟨rfl, rfl⟩ := hr_16
                  exact W.lret (v := (kput ((0 : Int32), u.2.1, u.2.2) r (0 : Int32) (((jX1_size (u.2.1 a.toNatClampNeg)) / (10000 : Int64)) * (10000 : Int64)) (2 : Int32)).1) hx hb hr (fun t9 ht9 hW9 => ⟨⟨(kput ((0 : Int32), u.2.1, u.2.2) r (0 : Int32) (((jX1_size (u.2.1 a.toNatClampNeg)) / (10000 : Int64)) * (10000 : Int64)) (2 : Int32)).1, (kput ((0 : Int32), u.2.1, u.2.2) r (0 : Int32) (((jX1_size (u.2.1 a.toNatClampNeg)) / (10000 : Int64)) * (10000 : Int64)) (2 : Int32)).2, rfl, (⟨by rw [kturn, if_pos c_2, if_neg c_4, if_neg c_6, if_pos c_9, if_neg c_10, if_neg c_11, if_neg c_12, if_pos c_14], by rw [kturn, if_pos c_2, if_neg c_4, if_neg c_6, if_pos c_9, if_neg c_10, if_neg c_11, if_neg c_12, if_pos c_14]⟩), by rw [ht9]; exact hP, va_K.moved hW9.alike hK, hD⟩, hS.F ht9⟩) hS.2.2 dX1_turn_189 hlocks
                · refine lv_lload hx hb dX1_turn_150 (lv_at hl 0 rfl) ?_
                  refine lv_lload hx hb dX1_turn_152 (lv_at hl 1 rfl) ?_
                  refine g_callSl S hs (tX1_size l t (u.2.1 a.toNatClampNeg)) ml_X1_39 st_yX1_size in_X1 cd_yX1_size hd_yX1_size ⟨by decide, by decide⟩ hE hS hA hl.1 rfl (Nat.le_of_ble_eq_true rfl) ⟨by decide, by decide⟩ dX1_turn_154 (fun r_17 hr_17 => ?_)
                  subst hr_17
                  refine g_lc_ge (tgt := 169) hx hb dX1_turn_157 dX1_turn_158 (by decide) (fun c_18 => ?_) (fun c_18 => ?_)
                  · refine lv_aload_n hx hb dX1_turn_169 rfl (lv_at hl 2 rfl) ?_
                    refine lv_iload_n hx hb dX1_turn_170 rfl (lv_at hl 3 rfl) ?_
                    refine lv_lload hx hb dX1_turn_171 (lv_at hl 1 rfl) ?_
                    refine lv_lconst (v := 0) hx hb dX1_turn_173 (by decide) ?_
                    refine g_lc_ge (tgt := 182) hx hb dX1_turn_174 dX1_turn_175 (by decide) (fun c_19 => absurd c_19 c_14) (fun c_19 => ?_)
                    refine lv_iconst (v := 1) hx hb dX1_turn_178 (by decide) ?_
                    refine lv_goto (tgt := 183) hx hb dX1_turn_179 (by decide) ?_
                    refine lv_lload hx hb dX1_turn_183 (lv_at hl 0 rfl) ?_
                    refine lv_iconst (v := 2) hx hb dX1_turn_185 (by decide) ?_
                    refine g_callMl S hs (tX1_put l t D m0 m1 m2 cJ cI ((0 : Int32), u.2.1, u.2.2) r (1 : Int32) (((jX1_size (u.2.1 a.toNatClampNeg)) / (10000 : Int64)) * (10000 : Int64)) (2 : Int32) (out_in (by assumption))) rfl ml_X1_43 im_yX1_put se_yX1_put cd_yX1_put hd_yX1_put ⟨by decide, by decide⟩ hE hS hA hP hK hD hl.1 rfl (Nat.le_of_ble_eq_true rfl) ⟨by decide, by decide⟩ dX1_turn_186 (fun r_20 u_20 H locs hr_20 hP hD hS => ?_)
                    obtain ⟨rfl, rfl⟩ := hr_20
                    exact W.lret (v := (kput ((0 : Int32), u.2.1, u.2.2) r (1 : Int32) (((jX1_size (u.2.1 a.toNatClampNeg)) / (10000 : Int64)) * (10000 : Int64)) (2 : Int32)).1) hx hb hr (fun t9 ht9 hW9 => ⟨⟨(kput ((0 : Int32), u.2.1, u.2.2) r (1 : Int32) (((jX1_size (u.2.1 a.toNatClampNeg)) / (10000 : Int64)) * (10000 : Int64)) (2 : Int32)).1, (kput ((0 : Int32), u.2.1, u.2.2) r (1 : Int32) (((jX1_size (u.2.1 a.toNatClampNeg)) / (10000 : Int64)) * (10000 : Int64)) (2 : Int32)).2, rfl, (⟨by rw [kturn, if_pos c_2, if_neg c_4, if_neg c_6, if_pos c_9, if_neg c_10, if_neg c_11, if_neg c_12, if_neg c_14, if_pos c_18], by rw [kturn, if_pos c_2, if_neg c_4, if_neg c_6, if_pos c_9, if_neg c_10, if_neg c_11, if_neg c_12, if_neg c_14, if_pos c_18]⟩), by rw [ht9]; exact hP, va_K.moved hW9.alike hK, hD⟩, hS.F ht9⟩) hS.2.2 dX1_turn_189 hlocks
                  · refine lv_lload hx hb dX1_turn_161 (lv_at hl 0 rfl) ?_
                    refine lv_ldc2 hx hb hown (hts _ (hs _ kl_X1_33)) dX1_turn_163 ?_
                    refine lv_ladd hx hb dX1_turn_166 ?_
                    refine lv_lstore (lv' := [(6, .long ((((jX1_size (u.2.1 a.toNatClampNeg)) / (10000 : Int64)) * (10000 : Int64)) + (10000 : Int64))), (4, .long (u.2.1 a.toNatClampNeg)), (0, .ref m0), (1, .int r), (2, .int op), (3, .int a)]) hx hb dX1_turn_167 hl (by decide) rfl (fun ls hl => ?_)
                    refine lv_aload_n hx hb dX1_turn_169 rfl (lv_at hl 2 rfl) ?_
                    refine lv_iload_n hx hb dX1_turn_170 rfl (lv_at hl 3 rfl) ?_
                    refine lv_lload hx hb dX1_turn_171 (lv_at hl 1 rfl) ?_
                    refine lv_lconst (v := 0) hx hb dX1_turn_173 (by decide) ?_
                    refine g_lc_ge (tgt := 182) hx hb dX1_turn_174 dX1_turn_175 (by decide) (fun c_21 => absurd c_21 c_14) (fun c_21 => ?_)
                    refine lv_iconst (v := 1) hx hb dX1_turn_178 (by decide) ?_
                    refine lv_goto (tgt := 183) hx hb dX1_turn_179 (by decide) ?_
                    refine lv_lload hx hb dX1_turn_183 (lv_at hl 0 rfl) ?_
                    refine lv_iconst (v := 2) hx hb dX1_turn_185 (by decide) ?_
                    refine g_callMl S hs (tX1_put l t D m0 m1 m2 cJ cI ((0 : Int32), u.2.1, u.2.2) r (1 : Int32) ((((jX1_size (u.2.1 a.toNatClampNeg)) / (10000 : Int64)) * (10000 : Int64)) + (10000 : Int64)) (2 : Int32) (out_in (by assumption))) rfl ml_X1_43 im_yX1_put se_yX1_put cd_yX1_put hd_yX1_put ⟨by decide, by decide⟩ hE hS hA hP hK hD hl.1 rfl (Nat.le_of_ble_eq_true rfl) ⟨by decide, by decide⟩ dX1_turn_186 (fun r_22 u_22 H locs hr_22 hP hD hS => ?_)
                    obtain ⟨rfl, rfl⟩ := hr_22
                    exact W.lret (v := (kput ((0 : Int32), u.2.1, u.2.2) r (1 : Int32) ((((jX1_size (u.2.1 a.toNatClampNeg)) / (10000 : Int64)) * (10000 : Int64)) + (10000 : Int64)) (2 : Int32)).1) hx hb hr (fun t9 ht9 hW9 => ⟨⟨(kput ((0 : Int32), u.2.1, u.2.2) r (1 : Int32) ((((jX1_size (u.2.1 a.toNatClampNeg)) / (10000 : Int64)) * (10000 : Int64)) + (10000 : Int64)) (2 : Int32)).1, (kput ((0 : Int32), u.2.1, u.2.2) r (1 : Int32) ((((jX1_size (u.2.1 a.toNatClampNeg)) / (10000 : Int64)) * (10000 : Int64)) + (10000 : Int64)) (2 : Int32)).2, rfl, (⟨by rw [kturn, if_pos c_2, if_neg c_4, if_neg c_6, if_pos c_9, if_neg c_10, if_neg c_11, if_neg c_12, if_neg c_14, if_neg c_18], by rw [kturn, if_pos c_2, if_neg c_4, if_neg c_6, if_pos c_9, if_neg c_10, if_neg c_11, if_neg c_12, if_neg c_14, if_neg c_18]⟩), by rw [ht9]; exact hP, va_K.moved hW9.alike hK, hD⟩, hS.F ht9⟩) hS.2.2 dX1_turn_189 hlocks
              · refine lv_aload_n hx hb dX1_turn_104 rfl (lv_at hl 1 rfl) ?_
                refine lv_iload_n hx hb dX1_turn_105 rfl (lv_at hl 2 rfl) ?_
                refine lv_lload hx hb dX1_turn_106 (lv_at hl 0 rfl) ?_
                refine lv_lconst (v := 0) hx hb dX1_turn_108 (by decide) ?_
                refine g_lc_le (tgt := 117) hx hb dX1_turn_109 dX1_turn_110 (by decide) (fun c_23 => ?_) (fun c_23 => ?_)
                · refine lv_iconst (v := 0) hx hb dX1_turn_117 (by decide) ?_
                  refine lv_lload hx hb dX1_turn_118 (lv_at hl 0 rfl) ?_
                  refine g_callSl S hs (tX1_size l t (u.2.1 a.toNatClampNeg)) ml_X1_39 st_yX1_size in_X1 cd_yX1_size hd_yX1_size ⟨by decide, by decide⟩ hE hS hA hl.1 rfl (Nat.le_of_ble_eq_true rfl) ⟨by decide, by decide⟩ dX1_turn_120 (fun r_24 hr_24 => ?_)
                  subst hr_24
                  refine lv_iconst (v := 2) hx hb dX1_turn_123 (by decide) ?_
                  refine g_callMl S hs (tX1_put l t D m0 m1 m2 cJ cI ((0 : Int32), u.2.1, u.2.2) r (0 : Int32) (jX1_size (u.2.1 a.toNatClampNeg)) (2 : Int32) (out_in (by assumption))) rfl ml_X1_43 im_yX1_put se_yX1_put cd_yX1_put hd_yX1_put ⟨by decide, by decide⟩ hE hS hA hP hK hD hl.1 rfl (Nat.le_of_ble_eq_true rfl) ⟨by decide, by decide⟩ dX1_turn_124 (fun r_25 u_25 H locs hr_25 hP hD hS => ?_)
                  obtain ⟨rfl, rfl⟩ := hr_25
                  exact W.lret (v := (kput ((0 : Int32), u.2.1, u.2.2) r (0 : Int32) (jX1_size (u.2.1 a.toNatClampNeg)) (2 : Int32)).1) hx hb hr (fun t9 ht9 hW9 => ⟨⟨(kput ((0 : Int32), u.2.1, u.2.2) r (0 : Int32) (jX1_size (u.2.1 a.toNatClampNeg)) (2 : Int32)).1, (kput ((0 : Int32), u.2.1, u.2.2) r (0 : Int32) (jX1_size (u.2.1 a.toNatClampNeg)) (2 : Int32)).2, rfl, (⟨by rw [kturn, if_pos c_2, if_neg c_4, if_neg c_6, if_pos c_9, if_neg c_10, if_neg c_11, if_pos c_12, if_pos c_23], by rw [kturn, if_pos c_2, if_neg c_4, if_neg c_6, if_pos c_9, if_neg c_10, if_neg c_11, if_pos c_12, if_pos c_23]⟩), by rw [ht9]; exact hP, va_K.moved hW9.alike hK, hD⟩, hS.F ht9⟩) hS.2.2 dX1_turn_127 hlocks
                · refine lv_iconst (v := 1) hx hb dX1_turn_113 (by decide) ?_
                  refine lv_goto (tgt := 118) hx hb dX1_turn_114 (by decide) ?_
                  refine lv_lload hx hb dX1_turn_118 (lv_at hl 0 rfl) ?_
                  refine g_callSl S hs (tX1_size l t (u.2.1 a.toNatClampNeg)) ml_X1_39 st_yX1_size in_X1 cd_yX1_size hd_yX1_size ⟨by decide, by decide⟩ hE hS hA hl.1 rfl (Nat.le_of_ble_eq_true rfl) ⟨by decide, by decide⟩ dX1_turn_120 (fun r_26 hr_26 => ?_)
                  subst hr_26
                  refine lv_iconst (v := 2) hx hb dX1_turn_123 (by decide) ?_
                  refine g_callMl S hs (tX1_put l t D m0 m1 m2 cJ cI ((0 : Int32), u.2.1, u.2.2) r (1 : Int32) (jX1_size (u.2.1 a.toNatClampNeg)) (2 : Int32) (out_in (by assumption))) rfl ml_X1_43 im_yX1_put se_yX1_put cd_yX1_put hd_yX1_put ⟨by decide, by decide⟩ hE hS hA hP hK hD hl.1 rfl (Nat.le_of_ble_eq_true rfl) ⟨by decide, by decide⟩ dX1_turn_124 (fun r_27 u_27 H locs hr_27 hP hD hS => ?_)
                  obtain ⟨rfl, rfl⟩ := hr_27
                  exact W.lret (v := (kput ((0 : Int32), u.2.1, u.2.2) r (1 : Int32) (jX1_size (u.2.1 a.toNatClampNeg)) (2 : Int32)).1) hx hb hr (fun t9 ht9 hW9 => ⟨⟨(kput ((0 : Int32), u.2.1, u.2.2) r (1 : Int32) (jX1_size (u.2.1 a.toNatClampNeg)) (2 : Int32)).1, (kput ((0 : Int32), u.2.1, u.2.2) r (1 : Int32) (jX1_size (u.2.1 a.toNatClampNeg)) (2 : Int32)).2, rfl, (⟨by rw [kturn, if_pos c_2, if_neg c_4, if_neg c_6, if_pos c_9, if_neg c_10, if_neg c_11, if_pos c_12, if_neg c_23], by rw [kturn, if_pos c_2, if_neg c_4, if_neg c_6, if_pos c_9, if_neg c_10, if_neg c_11, if_pos c_12, if_neg c_23]⟩), by rw [ht9]; exact hP, va_K.moved hW9.alike hK, hD⟩, hS.F ht9⟩) hS.2.2 dX1_turn_127 hlocks
            · refine lv_aload_n hx hb dX1_turn_86 rfl (lv_at hl 1 rfl) ?_
              refine lv_iload_n hx hb dX1_turn_87 rfl (lv_at hl 2 rfl) ?_
              refine lv_iconst (v := 0) hx hb dX1_turn_88 (by decide) ?_
              refine lv_lload hx hb dX1_turn_89 (lv_at hl 0 rfl) ?_
              refine g_callSl S hs (tX1_size l t (u.2.1 a.toNatClampNeg)) ml_X1_39 st_yX1_size in_X1 cd_yX1_size hd_yX1_size ⟨by decide, by decide⟩ hE hS hA hl.1 rfl (Nat.le_of_ble_eq_true rfl) ⟨by decide, by decide⟩ dX1_turn_91 (fun r_28 hr_28 => ?_)
              subst hr_28
              refine lv_iconst (v := 2) hx hb dX1_turn_94 (by decide) ?_
              refine g_callMl S hs (tX1_put l t D m0 m1 m2 cJ cI ((0 : Int32), u.2.1, u.2.2) r (0 : Int32) (jX1_size (u.2.1 a.toNatClampNeg)) (2 : Int32) (out_in (by assumption))) rfl ml_X1_43 im_yX1_put se_yX1_put cd_yX1_put hd_yX1_put ⟨by decide, by decide⟩ hE hS hA hP hK hD hl.1 rfl (Nat.le_of_ble_eq_true rfl) ⟨by decide, by decide⟩ dX1_turn_95 (fun r_29 u_29 H locs hr_29 hP hD hS => ?_)
              obtain ⟨rfl, rfl⟩ := hr_29
              exact W.lret (v := (kput ((0 : Int32), u.2.1, u.2.2) r (0 : Int32) (jX1_size (u.2.1 a.toNatClampNeg)) (2 : Int32)).1) hx hb hr (fun t9 ht9 hW9 => ⟨⟨(kput ((0 : Int32), u.2.1, u.2.2) r (0 : Int32) (jX1_size (u.2.1 a.toNatClampNeg)) (2 : Int32)).1, (kput ((0 : Int32), u.2.1, u.2.2) r (0 : Int32) (jX1_size (u.2.1 a.toNatClampNeg)) (2 : Int32)).2, rfl, (⟨by rw [kturn, if_pos c_2, if_neg c_4, if_neg c_6, if_pos c_9, if_neg c_10, if_pos c_11], by rw [kturn, if_pos c_2, if_neg c_4, if_neg c_6, if_pos c_9, if_neg c_10, if_pos c_11]⟩), by rw [ht9]; exact hP, va_K.moved hW9.alike hK, hD⟩, hS.F ht9⟩) hS.2.2 dX1_turn_98 hlocks
          · refine lv_aload_n hx hb dX1_turn_49 rfl (lv_at hl 1 rfl) ?_
            refine lv_iload_n hx hb dX1_turn_50 rfl (lv_at hl 2 rfl) ?_
            refine lv_lload hx hb dX1_turn_51 (lv_at hl 0 rfl) ?_
            refine lv_lconst (v := 0) hx hb dX1_turn_53 (by decide) ?_
            refine g_lc_ge (tgt := 62) hx hb dX1_turn_54 dX1_turn_55 (by decide) (fun c_30 => ?_) (fun c_30 => ?_)
            · refine lv_iconst (v := 0) hx hb dX1_turn_62 (by decide) ?_
              refine lv_lload hx hb dX1_turn_63 (lv_at hl 0 rfl) ?_
              refine g_callSl S hs (tX1_size l t (u.2.1 a.toNatClampNeg)) ml_X1_39 st_yX1_size in_X1 cd_yX1_size hd_yX1_size ⟨by decide, by decide⟩ hE hS hA hl.1 rfl (Nat.le_of_ble_eq_true rfl) ⟨by decide, by decide⟩ dX1_turn_65 (fun r_31 hr_31 => ?_)
              subst hr_31
              refine lv_ldc2 hx hb hown (hts _ (hs _ kl_X1_54)) dX1_turn_68 ?_
              refine lv_ladd hx hb dX1_turn_71 ?_
              refine lv_ldc2 hx hb hown (hts _ (hs _ kl_X1_56)) dX1_turn_72 ?_
              refine lv_ldiv hx hb dX1_turn_75 (by decide) ?_
              refine lv_iconst (v := 2) hx hb dX1_turn_76 (by decide) ?_
              refine g_callMl S hs (tX1_put l t D m0 m1 m2 cJ cI ((0 : Int32), u.2.1, u.2.2) r (0 : Int32) (((jX1_size (u.2.1 a.toNatClampNeg)) + (50 : Int64)) / (100 : Int64)) (2 : Int32) (out_in (by assumption))) rfl ml_X1_43 im_yX1_put se_yX1_put cd_yX1_put hd_yX1_put ⟨by decide, by decide⟩ hE hS hA hP hK hD hl.1 rfl (Nat.le_of_ble_eq_true rfl) ⟨by decide, by decide⟩ dX1_turn_77 (fun r_32 u_32 H locs hr_32 hP hD hS => ?_)
              obtain ⟨rfl, rfl⟩ := hr_32
              exact W.lret (v := (kput ((0 : Int32), u.2.1, u.2.2) r (0 : Int32) (((jX1_size (u.2.1 a.toNatClampNeg)) + (50 : Int64)) / (100 : Int64)) (2 : Int32)).1) hx hb hr (fun t9 ht9 hW9 => ⟨⟨(kput ((0 : Int32), u.2.1, u.2.2) r (0 : Int32) (((jX1_size (u.2.1 a.toNatClampNeg)) + (50 : Int64)) / (100 : Int64)) (2 : Int32)).1, (kput ((0 : Int32), u.2.1, u.2.2) r (0 : Int32) (((jX1_size (u.2.1 a.toNatClampNeg)) + (50 : Int64)) / (100 : Int64)) (2 : Int32)).2, rfl, (⟨by rw [kturn, if_pos c_2, if_neg c_4, if_neg c_6, if_pos c_9, if_pos c_10, if_pos c_30], by rw [kturn, if_pos c_2, if_neg c_4, if_neg c_6, if_pos c_9, if_pos c_10, if_pos c_30]⟩), by rw [ht9]; exact hP, va_K.moved hW9.alike hK, hD⟩, hS.F ht9⟩) hS.2.2 dX1_turn_80 hlocks
            · refine lv_iconst (v := 1) hx hb dX1_turn_58 (by decide) ?_
              refine lv_goto (tgt := 63) hx hb dX1_turn_59 (by decide) ?_
              refine lv_lload hx hb dX1_turn_63 (lv_at hl 0 rfl) ?_
              refine g_callSl S hs (tX1_size l t (u.2.1 a.toNatClampNeg)) ml_X1_39 st_yX1_size in_X1 cd_yX1_size hd_yX1_size ⟨by decide, by decide⟩ hE hS hA hl.1 rfl (Nat.le_of_ble_eq_true rfl) ⟨by decide, by decide⟩ dX1_turn_65 (fun r_33 hr_33 => ?_)
              subst hr_33
              refine lv_ldc2 hx hb hown (hts _ (hs _ kl_X1_54)) dX1_turn_68 ?_
              refine lv_ladd hx hb dX1_turn_71 ?_
              refine lv_ldc2 hx hb hown (hts _ (hs _ kl_X1_56)) dX1_turn_72 ?_
              refine lv_ldiv hx hb dX1_turn_75 (by decide) ?_
              refine lv_iconst (v := 2) hx hb dX1_turn_76 (by decide) ?_
              refine g_callMl S hs (tX1_put l t D m0 m1 m2 cJ cI ((0 : Int32), u.2.1, u.2.2) r (1 : Int32) (((jX1_size (u.2.1 a.toNatClampNeg)) + (50 : Int64)) / (100 : Int64)) (2 : Int32) (out_in (by assumption))) rfl ml_X1_43 im_yX1_put se_yX1_put cd_yX1_put hd_yX1_put ⟨by decide, by decide⟩ hE hS hA hP hK hD hl.1 rfl (Nat.le_of_ble_eq_true rfl) ⟨by decide, by decide⟩ dX1_turn_77 (fun r_34 u_34 H locs hr_34 hP hD hS => ?_)
              obtain ⟨rfl, rfl⟩ := hr_34
              exact W.lret (v := (kput ((0 : Int32), u.2.1, u.2.2) r (1 : Int32) (((jX1_size (u.2.1 a.toNatClampNeg)) + (50 : Int64)) / (100 : Int64)) (2 : Int32)).1) hx hb hr (fun t9 ht9 hW9 => ⟨⟨(kput ((0 : Int32), u.2.1, u.2.2) r (1 : Int32) (((jX1_size (u.2.1 a.toNatClampNeg)) + (50 : Int64)) / (100 : Int64)) (2 : Int32)).1, (kput ((0 : Int32), u.2.1, u.2.2) r (1 : Int32) (((jX1_size (u.2.1 a.toNatClampNeg)) + (50 : Int64)) / (100 : Int64)) (2 : Int32)).2, rfl, (⟨by rw [kturn, if_pos c_2, if_neg c_4, if_neg c_6, if_pos c_9, if_pos c_10, if_neg c_30], by rw [kturn, if_pos c_2, if_neg c_4, if_neg c_6, if_pos c_9, if_pos c_10, if_neg c_30]⟩), by rw [ht9]; exact hP, va_K.moved hW9.alike hK, hD⟩, hS.F ht9⟩) hS.2.2 dX1_turn_80 hlocks
        · refine lv_aload_n hx hb dX1_turn_30 rfl (lv_at hl 0 rfl) ?_
          refine lv_iconst (v := 1) hx hb dX1_turn_31 (by decide) ?_
          refine g_callMi S hs (tX1_fail l t D m0 m1 m2 cJ cI ((0 : Int32), u.2.1, u.2.2) (1 : Int32)) rfl ml_X1_29 im_yX1_fail se_yX1_fail cd_yX1_fail hd_yX1_fail ⟨by decide, by decide⟩ hE hS hA hP hK hD hl.1 rfl (Nat.le_of_ble_eq_true rfl) ⟨by decide, by decide⟩ dX1_turn_32 (fun r_35 u_35 H locs hr_35 hP hD hS => ?_)
          obtain ⟨rfl, rfl⟩ := hr_35
          refine lv_i2l hx hb dX1_turn_35 rfl ?_
          exact W.lret (v := ((kfail ((0 : Int32), u.2.1, u.2.2) (1 : Int32)).1).toInt64) hx hb hr (fun t9 ht9 hW9 => ⟨⟨((kfail ((0 : Int32), u.2.1, u.2.2) (1 : Int32)).1).toInt64, (kfail ((0 : Int32), u.2.1, u.2.2) (1 : Int32)).2, rfl, (⟨by rw [kturn, if_pos c_2, if_neg c_4, if_neg c_6, if_neg c_9], by rw [kturn, if_pos c_2, if_neg c_4, if_neg c_6, if_neg c_9]⟩), by rw [ht9]; exact hP, va_K.moved hW9.alike hK, hD⟩, hS.F ht9⟩) hS.2.2 dX1_turn_36 hlocks
end
section
/-! ===== the reference: round, average, the constructor ===== -/
theorem gP_10 (k : Nat) : gP k * (10 : Int64) = gP (k + 1) := by
  unfold gP
  rw [show (10 : Int64) = lN 10 from by decide, lN_mul, Nat.pow_succ]
theorem g_r1 : ∀ j, j < 14 → ¬ (4 : Int32) ≤ (4 : Int32) - nI (j + 1) := by decide
theorem g_r2 (j : Nat) : (4 : Int32) - nI (j + 1) + 1 = (4 : Int32) - nI j := by
  rw [← nI_1]
  generalize nI j = x
  grind
section GL
variable {p : Program} {l : Launch} {e : Env} {s : State} {m : MethodId} {args : Array Value} {below : List Frame} {meth : Method} {c : Code} {H : Heap} {locs : List Loc} {Q : State → Prop}
set_option maxHeartbeats 4000000 in
set_option maxRecDepth 100000 in
theorem kround_loop {R : Room} {cells slots : Nat} (hx : p.tables.exec = Jvm.exec) (hb : c.code = cX1_round) (hown : s.vm.findClass RX1 = some m.cls) (h10 : (Cond.constantLong RX1 58 (10)).before args s = true) {m0 J : Nat} {r a : Int32} (hJ : J ≤ 13)
    (kk : ∀ ls : Array Slot, lv_has ls 12 [(4, .long (gP J)), (0, .ref m0), (1, .int r), (2, .int a)] → W p l e R s m args below meth c H locs cells slots Q (F0 m 65 ls [])) :
    ∀ j : Nat, j ≤ J → ∀ ls : Array Slot, lv_has ls 12 [(6, .int ((4 : Int32) - nI j)), (4, .long (gP (J - j))), (0, .ref m0), (1, .int r), (2, .int a)] → W p l e R s m args below meth c H locs cells slots Q (F0 m 45 ls []) := by
  intro j
  induction j with
  | zero =>
    intro _ ls hl
    refine lv_iload hx hb dX1_round_45 (lv_at hl 0 rfl) ?_
    refine lv_iconst (v := 4) hx hb dX1_round_47 (by decide) ?_
    refine lv_icmp_ge (tgt := 65) hx hb dX1_round_48 (by decide) (fun _ => kk ls (lv_sub hl [1, 2, 3, 4] rfl)) (fun c_1 => absurd (by decide) c_1)
  | succ j ih =>
    intro hj ls hl
    refine lv_iload hx hb dX1_round_45 (lv_at hl 0 rfl) ?_
    refine lv_iconst (v := 4) hx hb dX1_round_47 (by decide) ?_
    refine lv_icmp_ge (tgt := 65) hx hb dX1_round_48 (by decide) (fun c_1 => absurd c_1 (g_r1 j (by omega))) (fun c_1 => ?_)
    refine lv_lload hx hb dX1_round_51 (lv_at hl 1 rfl) ?_
    refine lv_ldc2 hx hb hown h10 dX1_round_53 ?_
    refine lv_lmul hx hb dX1_round_56 ?_
    rw [gP_10, show J - (j + 1) + 1 = J - j from by omega]
    refine lv_lstore (lv' := [(4, .long (gP (J - j))), (6, .int ((4 : Int32) - nI (j + 1))), (0, .ref m0), (1, .int r), (2, .int a)]) hx hb dX1_round_57 hl (by decide) rfl (fun ls hl => ?_)
    refine lv_iinc (lv' := [(6, .int ((4 : Int32) - nI (j + 1) + 1)), (4, .long (gP (J - j))), (0, .ref m0), (1, .int r), (2, .int a)]) hx hb dX1_round_59 hl (k := 1) rfl rfl (by decide) rfl (fun ls hl => ?_)
    refine lv_goto (tgt := 45) hx hb dX1_round_62 (by decide) ?_
    rw [g_r2] at hl
    exact ih (by omega) ls hl
/-- the reference's running sum: none where a sum on the way is too great -/
def kavgF (f : Nat → Int64) (n : Nat) : Nat → Nat → Int64 → Option Int64
  | 0, _, v => some v
  | i + 1, k, v => if k < n then (if jX1_size (v + f k) ≤ (900000000000000 : Int64) then kavgF f n i (k + 1) (v + f k) else none) else some v
def kopt {α : Type} (o : Option Int64) (a : α) (f : Int64 → α) : α := match o with
  | none => a
  | some v => f v
theorem kopt_none {α : Type} (a : α) (f : Int64 → α) : kopt none a f = a := rfl
theorem kopt_some {α : Type} (v : Int64) (a : α) (f : Int64 → α) : kopt (some v) a f = f v := rfl
theorem g_n8K : ∀ N, N < 9 → 1 ≤ N → ¬ (10000 : Int64) * (nI N).toInt64 = 0 := by decide
set_option maxHeartbeats 4000000 in
set_option maxRecDepth 100000 in
theorem kavg_loop {t : Nat} {D : va_G} {m0 m1 m2 N : Nat} {cJ cI : ClassId} {u : mS} {n : Int32} {A : Nat → Prop} (S : CallFix p m c cX1_average 6 s args (Cond.code yX1_average cX1_average 6 (some .long) :: gws) RX1) (hE : gE t A s s.heap) (hS : va_S A s.heap H locs) (hA : ∀ q, s.heap.size ≤ q → A q) (hP : va_P D vwCl (wM m0 m1 m2 cJ cI u) H) (hK : va_K D vwCl [(cJ, .long), (cI, .int)] s) (hN : n = nI N) (hN8 : N ≤ 8)
    (kf : kavgF u.2.1 N 9 0 0 = none → ∀ ls : Array Slot, lv_has ls 6 [(0, .ref m0)] → W p l e { frames := 2, cells := 0, slots := 0, locals := 60 } s m args below meth c H locs 0 0 Q (F0 m 55 ls []))
    (kd : ∀ v : Int64, kavgF u.2.1 N 9 0 0 = some v → ∀ ls : Array Slot, lv_has ls 6 [(2, .long v), (0, .ref m0), (1, .int n)] → W p l e { frames := 2, cells := 0, slots := 0, locals := 60 } s m args below meth c H locs 0 0 Q (F0 m 68 ls [])) :
    ∀ (i k : Nat) (v : Int64) (ls : Array Slot), k ≤ N → N < k + i → kavgF u.2.1 N i k v = kavgF u.2.1 N 9 0 0 → lv_has ls 6 [(4, .int (nI k)), (2, .long v), (0, .ref m0), (1, .int n)] → W p l e { frames := 2, cells := 0, slots := 0, locals := 60 } s m args below meth c H locs 0 0 Q (F0 m 28 ls []) := by
  obtain ⟨hx, hb, hml, hown, hts⟩ := id S
  have hs : ∀ w ∈ gws, w ∈ Cond.code yX1_average cX1_average 6 (some .long) :: gws := fun w h => List.mem_cons_of_mem _ h
  subst hN
  intro i
  induction i with
  | zero => intro k v ls h1 h2; omega
  | succ i ih =>
    intro k v ls hk hi heq hl
    refine lv_iload hx hb dX1_average_28 (lv_at hl 0 rfl) ?_
    refine lv_iload_n hx hb dX1_average_30 rfl (lv_at hl 3 rfl) ?_
    refine lv_icmp_ge (tgt := 68) hx hb dX1_average_31 (by decide) (fun c_3 => ?_) (fun c_3 => ?_)
    · rw [nI_leI (by omega) (by omega)] at c_3
      exact kd v (by rw [← heq, kavgF, if_neg (by omega)]) ls (lv_sub hl [1, 2, 3] rfl)
    · rw [nI_leI (by omega) (by omega)] at c_3
      refine lv_lload_n hx hb dX1_average_34 rfl (lv_at hl 1 rfl) ?_
      refine lv_aload_n hx hb dX1_average_35 rfl (lv_at hl 2 rfl) ?_
      refine va_get (ci := 1) (v := .ref m1) (C := RX1) (T := TX1) (N := 3) hx hb hts (fun w h => hs _ (inX1g w h)) hown hK hP 0 rfl rfl 1 (by decide) (hts _ (hs _ fl_X1_7)) (fun _ h9 => h9) rfl dX1_average_36 ?_
      refine lv_iload hx hb dX1_average_39 (lv_at hl 0 rfl) ?_
      refine va_lald hx hb hK hP 1 0 rfl rfl (vp_in_nI (by omega) (by decide)) dX1_average_41 ?_
      refine lv_ladd hx hb dX1_average_42 ?_
      rw [nI_clamp (by omega)]
      refine lv_lstore_n (lv' := [(2, .long (v + u.2.1 k)), (4, .int (nI k)), (0, .ref m0), (1, .int (nI N))]) hx hb dX1_average_43 rfl hl (by decide) rfl (fun ls hl => ?_)
      refine lv_lload_n hx hb dX1_average_44 rfl (lv_at hl 0 rfl) ?_
      refine g_callSl S hs (tX1_size l t (v + u.2.1 k)) ml_X1_39 st_yX1_size in_X1 cd_yX1_size hd_yX1_size ⟨by decide, by decide⟩ hE hS hA hl.1 rfl (Nat.le_of_ble_eq_true rfl) ⟨by decide, by decide⟩ dX1_average_45 (fun r_1 hr_1 => ?_)
      subst hr_1
      refine lv_ldc2 hx hb hown (hts _ (hs _ kl_X1_27)) dX1_average_48 ?_
      refine g_lc_le (tgt := 62) hx hb dX1_average_51 dX1_average_52 (by decide) (fun c_4 => ?_) (fun c_4 => ?_)
      · refine lv_iinc (lv' := [(4, .int (nI k + 1)), (2, .long (v + u.2.1 k)), (0, .ref m0), (1, .int (nI N))]) hx hb dX1_average_62 hl (k := 1) rfl rfl (by decide) rfl (fun ls hl => ?_)
        refine lv_goto (tgt := 28) hx hb dX1_average_65 (by decide) ?_
        exact ih (k + 1) (v + u.2.1 k) ls (by omega) (by omega) (by rw [← heq, kavgF, if_pos (by omega), if_pos c_4]) (by rw [← nI_1]; exact hl)
      · exact kf (by rw [← heq, kavgF, if_pos (by omega), if_neg c_4]) ls (lv_sub hl [2] rfl)
end GL
def kround (u : mS) (r : Int32) (a : Int32) (d : Int32) : Int64 × mS :=
  if (kout r) = (0 : Int32) then
    if (kout a) = (0 : Int32) then
      if d < (-9 : Int32) then
        (((kfail ((0 : Int32), u.2.1, u.2.2) (1 : Int32)).1).toInt64, (kfail ((0 : Int32), u.2.1, u.2.2) (1 : Int32)).2)
      else if d ≤ (4 : Int32) then
        if ((jX1_size (u.2.1 a.toNatClampNeg)) - (((jX1_size (u.2.1 a.toNatClampNeg)) / (gP ((4 : Int32) - d).toNatClampNeg)) * (gP ((4 : Int32) - d).toNatClampNeg))) < ((gP ((4 : Int32) - d).toNatClampNeg) - ((jX1_size (u.2.1 a.toNatClampNeg)) - (((jX1_size (u.2.1 a.toNatClampNeg)) / (gP ((4 : Int32) - d).toNatClampNeg)) * (gP ((4 : Int32) - d).toNatClampNeg)))) then
          if (0 : Int64) ≤ (u.2.1 a.toNatClampNeg) then
            ((kput ((0 : Int32), u.2.1, u.2.2) r (0 : Int32) (((jX1_size (u.2.1 a.toNatClampNeg)) / (gP ((4 : Int32) - d).toNatClampNeg)) * (gP ((4 : Int32) - d).toNatClampNeg)) (2 : Int32)).1, (kput ((0 : Int32), u.2.1, u.2.2) r (0 : Int32) (((jX1_size (u.2.1 a.toNatClampNeg)) / (gP ((4 : Int32) - d).toNatClampNeg)) * (gP ((4 : Int32) - d).toNatClampNeg)) (2 : Int32)).2)
          else ((kput ((0 : Int32), u.2.1, u.2.2) r (1 : Int32) (((jX1_size (u.2.1 a.toNatClampNeg)) / (gP ((4 : Int32) - d).toNatClampNeg)) * (gP ((4 : Int32) - d).toNatClampNeg)) (2 : Int32)).1, (kput ((0 : Int32), u.2.1, u.2.2) r (1 : Int32) (((jX1_size (u.2.1 a.toNatClampNeg)) / (gP ((4 : Int32) - d).toNatClampNeg)) * (gP ((4 : Int32) - d).toNatClampNeg)) (2 : Int32)).2)
        else if (0 : Int64) ≤ (u.2.1 a.toNatClampNeg) then
          ((kput ((0 : Int32), u.2.1, u.2.2) r (0 : Int32) ((((jX1_size (u.2.1 a.toNatClampNeg)) / (gP ((4 : Int32) - d).toNatClampNeg)) * (gP ((4 : Int32) - d).toNatClampNeg)) + (gP ((4 : Int32) - d).toNatClampNeg)) (2 : Int32)).1, (kput ((0 : Int32), u.2.1, u.2.2) r (0 : Int32) ((((jX1_size (u.2.1 a.toNatClampNeg)) / (gP ((4 : Int32) - d).toNatClampNeg)) * (gP ((4 : Int32) - d).toNatClampNeg)) + (gP ((4 : Int32) - d).toNatClampNeg)) (2 : Int32)).2)
        else ((kput ((0 : Int32), u.2.1, u.2.2) r (1 : Int32) ((((jX1_size (u.2.1 a.toNatClampNeg)) / (gP ((4 : Int32) - d).toNatClampNeg)) * (gP ((4 : Int32) - d).toNatClampNeg)) + (gP ((4 : Int32) - d).toNatClampNeg)) (2 : Int32)).1, (kput ((0 : Int32), u.2.1, u.2.2) r (1 : Int32) ((((jX1_size (u.2.1 a.toNatClampNeg)) / (gP ((4 : Int32) - d).toNatClampNeg)) * (gP ((4 : Int32) - d).toNatClampNeg)) + (gP ((4 : Int32) - d).toNatClampNeg)) (2 : Int32)).2)
      else (((kfail ((0 : Int32), u.2.1, u.2.2) (1 : Int32)).1).toInt64, (kfail ((0 : Int32), u.2.1, u.2.2) (1 : Int32)).2)
    else (((kfail ((0 : Int32), u.2.1, u.2.2) (1 : Int32)).1).toInt64, (kfail ((0 : Int32), u.2.1, u.2.2) (1 : Int32)).2)
  else (((kfail ((0 : Int32), u.2.1, u.2.2) (1 : Int32)).1).toInt64, (kfail ((0 : Int32), u.2.1, u.2.2) (1 : Int32)).2)
set_option maxHeartbeats 4000000 in
set_option maxRecDepth 100000 in
theorem tX1_round (l : Launch) (t : Nat) (D : va_G) (m0 m1 m2 : Nat) (cJ cI : ClassId) (u : mS) (r : Int32) (a : Int32) (d : Int32) : gMl l yX1_round cX1_round 12 { frames := 2, cells := 0, slots := 0, locals := 60 } t D m0 m1 m2 cJ cI u [.int r, .int a, .int d] (fun z9 u9 => z9 = (kround u r a d).1 ∧ u9 = (kround u r a d).2) := by
  refine g_openMl (by decide +kernel) (Nat.le_of_ble_eq_true rfl) ?_
  intro p e s m below meth c ls A hA S hr hlocks hE hP hK hD hl
  obtain ⟨hx, hb, hml, hown, hts⟩ := id S
  have hs : ∀ w ∈ gws, w ∈ Cond.code yX1_round cX1_round 12 (some .long) :: gws := fun w h => List.mem_cons_of_mem _ h
  have hS : va_S A s.heap s.heap [] := va_S.rf
  have hl : lv_has ls 12 [(0, .ref m0), (1, .int r), (2, .int a), (3, .int d)] := hl
  refine lv_aload_n hx hb dX1_round_0 rfl (lv_at hl 0 rfl) ?_
  refine lv_iconst (v := 0) hx hb dX1_round_1 (by decide) ?_
  refine va_put (ci := 1) (v := .int (0 : Int32)) (ty := .int) (C := RX1) (T := TX1) (N := 3) hx hb hts (fun w h => hs _ (inX1g w h)) tyX1 tyX1_ok nmX1 hown hK hP hD hS 0 rfl rfl 0 (by decide) (hts _ (hs _ fl_X1_17)) (fun _ h9 => h9) rfl (by decide +kernel) rfl rfl (Nat.le_of_ble_eq_true rfl) dX1_round_2 (fun H locs hP hD hS => ?_)
  have hP : va_P D vwCl (wM m0 m1 m2 cJ cI ((0 : Int32), u.2.1, u.2.2)) H := hP
  have hD : va_D A (wM m0 m1 m2 cJ cI ((0 : Int32), u.2.1, u.2.2)) := hD
  refine lv_aload_n hx hb dX1_round_5 rfl (lv_at hl 0 rfl) ?_
  refine lv_iload_n hx hb dX1_round_6 rfl (lv_at hl 1 rfl) ?_
  refine g_callPi S hs (tX1_out l m0 r) (va_recv hK hP (ci := 1) (q0 := 0) rfl rfl) ml_X1_21 im_yX1_out se_yX1_out in_X1 cd_yX1_out hd_yX1_out ⟨by decide, by decide⟩ hl.1 rfl (Nat.le_of_ble_eq_true rfl) ⟨by decide, by decide⟩ dX1_round_7 (fun r_1 hr_1 => ?_)
  subst hr_1
  refine lv_if_ne (tgt := 32) hx hb dX1_round_10 (by decide) (fun c_2 => ?_) (fun c_2 => ?_)
  · refine lv_aload_n hx hb dX1_round_32 rfl (lv_at hl 0 rfl) ?_
    refine lv_iconst (v := 1) hx hb dX1_round_33 (by decide) ?_
    refine g_callMi S hs (tX1_fail l t D m0 m1 m2 cJ cI ((0 : Int32), u.2.1, u.2.2) (1 : Int32)) rfl ml_X1_29 im_yX1_fail se_yX1_fail cd_yX1_fail hd_yX1_fail ⟨by decide, by decide⟩ hE hS hA hP hK hD hl.1 rfl (Nat.le_of_ble_eq_true rfl) ⟨by decide, by decide⟩ dX1_round_34 (fun r_3 u_3 H locs hr_3 hP hD hS => ?_)
    obtain ⟨rfl, rfl⟩ := hr_3
    refine lv_i2l hx hb dX1_round_37 rfl ?_
    exact W.lret (v := ((kfail ((0 : Int32), u.2.1, u.2.2) (1 : Int32)).1).toInt64) hx hb hr (fun t9 ht9 hW9 => ⟨⟨((kfail ((0 : Int32), u.2.1, u.2.2) (1 : Int32)).1).toInt64, (kfail ((0 : Int32), u.2.1, u.2.2) (1 : Int32)).2, rfl, (⟨by rw [kround, if_neg c_2], by rw [kround, if_neg c_2]⟩), by rw [ht9]; exact hP, va_K.moved hW9.alike hK, hD⟩, hS.F ht9⟩) hS.2.2 dX1_round_38 hlocks
  · refine lv_aload_n hx hb dX1_round_13 rfl (lv_at hl 0 rfl) ?_
    refine lv_iload_n hx hb dX1_round_14 rfl (lv_at hl 2 rfl) ?_
    refine g_callPi S hs (tX1_out l m0 a) (va_recv hK hP (ci := 1) (q0 := 0) rfl rfl) ml_X1_21 im_yX1_out se_yX1_out in_X1 cd_yX1_out hd_yX1_out ⟨by decide, by decide⟩ hl.1 rfl (Nat.le_of_ble_eq_true rfl) ⟨by decide, by decide⟩ dX1_round_15 (fun r_4 hr_4 => ?_)
    subst hr_4
    refine lv_if_ne (tgt := 32) hx hb dX1_round_18 (by decide) (fun c_5 => ?_) (fun c_5 => ?_)
    · refine lv_aload_n hx hb dX1_round_32 rfl (lv_at hl 0 rfl) ?_
      refine lv_iconst (v := 1) hx hb dX1_round_33 (by decide) ?_
      refine g_callMi S hs (tX1_fail l t D m0 m1 m2 cJ cI ((0 : Int32), u.2.1, u.2.2) (1 : Int32)) rfl ml_X1_29 im_yX1_fail se_yX1_fail cd_yX1_fail hd_yX1_fail ⟨by decide, by decide⟩ hE hS hA hP hK hD hl.1 rfl (Nat.le_of_ble_eq_true rfl) ⟨by decide, by decide⟩ dX1_round_34 (fun r_6 u_6 H locs hr_6 hP hD hS => ?_)
      obtain ⟨rfl, rfl⟩ := hr_6
      refine lv_i2l hx hb dX1_round_37 rfl ?_
      exact W.lret (v := ((kfail ((0 : Int32), u.2.1, u.2.2) (1 : Int32)).1).toInt64) hx hb hr (fun t9 ht9 hW9 => ⟨⟨((kfail ((0 : Int32), u.2.1, u.2.2) (1 : Int32)).1).toInt64, (kfail ((0 : Int32), u.2.1, u.2.2) (1 : Int32)).2, rfl, (⟨by rw [kround, if_pos c_2, if_neg c_5], by rw [kround, if_pos c_2, if_neg c_5]⟩), by rw [ht9]; exact hP, va_K.moved hW9.alike hK, hD⟩, hS.F ht9⟩) hS.2.2 dX1_round_38 hlocks
    · refine lv_iload_n hx hb dX1_round_21 rfl (lv_at hl 3 rfl) ?_
      refine lv_bipush (v := (-9)) hx hb dX1_round_22 (by decide) ?_
      refine lv_icmp_lt (tgt := 32) hx hb dX1_round_24 (by decide) (fun c_7 => ?_) (fun c_7 => ?_)
      · refine lv_aload_n hx hb dX1_round_32 rfl (lv_at hl 0 rfl) ?_
        refine lv_iconst (v := 1) hx hb dX1_round_33 (by decide) ?_
        refine g_callMi S hs (tX1_fail l t D m0 m1 m2 cJ cI ((0 : Int32), u.2.1, u.2.2) (1 : Int32)) rfl ml_X1_29 im_yX1_fail se_yX1_fail cd_yX1_fail hd_yX1_fail ⟨by decide, by decide⟩ hE hS hA hP hK hD hl.1 rfl (Nat.le_of_ble_eq_true rfl) ⟨by decide, by decide⟩ dX1_round_34 (fun r_8 u_8 H locs hr_8 hP hD hS => ?_)
        obtain ⟨rfl, rfl⟩ := hr_8
        refine lv_i2l hx hb dX1_round_37 rfl ?_
        exact W.lret (v := ((kfail ((0 : Int32), u.2.1, u.2.2) (1 : Int32)).1).toInt64) hx hb hr (fun t9 ht9 hW9 => ⟨⟨((kfail ((0 : Int32), u.2.1, u.2.2) (1 : Int32)).1).toInt64, (kfail ((0 : Int32), u.2.1, u.2.2) (1 : Int32)).2, rfl, (⟨by rw [kround, if_pos c_2, if_pos c_5, if_pos c_7], by rw [kround, if_pos c_2, if_pos c_5, if_pos c_7]⟩), by rw [ht9]; exact hP, va_K.moved hW9.alike hK, hD⟩, hS.F ht9⟩) hS.2.2 dX1_round_38 hlocks
      · refine lv_iload_n hx hb dX1_round_27 rfl (lv_at hl 3 rfl) ?_
        refine lv_iconst (v := 4) hx hb dX1_round_28 (by decide) ?_
        refine lv_icmp_le (tgt := 39) hx hb dX1_round_29 (by decide) (fun c_9 => ?_) (fun c_9 => ?_)
        · refine lv_lconst (v := 1) hx hb dX1_round_39 (by decide) ?_
          refine lv_lstore (lv' := [(4, .long (1 : Int64)), (0, .ref m0), (1, .int r), (2, .int a), (3, .int d)]) hx hb dX1_round_40 hl (by decide) rfl (fun ls hl => ?_)
          refine lv_iload_n hx hb dX1_round_42 rfl (lv_at hl 4 rfl) ?_
          refine lv_istore (lv' := [(6, .int d), (4, .long (1 : Int64)), (0, .ref m0), (1, .int r), (2, .int a), (3, .int d)]) hx hb dX1_round_43 hl (by decide) rfl (fun ls hl => ?_)
          obtain ⟨J, hJ, eJ⟩ := vp_in_of (g_ixD c_7 c_9) (by decide)
          have hd9 : d = (4 : Int32) - nI J := by rw [← eJ]; grind
          have eP : gP J = gP ((4 : Int32) - d).toNatClampNeg := by rw [eJ, nI_clamp (by omega)]
          have hl' : lv_has ls 12 [(6, .int d), (4, .long (gP (J - J))), (0, .ref m0), (1, .int r), (2, .int a)] := by rw [Nat.sub_self]; exact lv_sub hl [0, 1, 2, 3, 4] rfl
          have hl' : lv_has ls 12 [(6, .int ((4 : Int32) - nI J)), (4, .long (gP (J - J))), (0, .ref m0), (1, .int r), (2, .int a)] := by rw [← hd9]; exact hl'
          refine kround_loop hx hb hown (hts _ (hs _ kl_X1_58)) (by omega) (fun ls hl => ?_) J (Nat.le_refl J) ls hl'
          rw [eP] at hl
          refine lv_aload_n hx hb dX1_round_65 rfl (lv_at hl 1 rfl) ?_
          refine va_get (ci := 1) (v := .ref m1) (C := RX1) (T := TX1) (N := 3) hx hb hts (fun w h => hs _ (inX1g w h)) hown hK hP 0 rfl rfl 1 (by decide) (hts _ (hs _ fl_X1_7)) (fun _ h9 => h9) rfl dX1_round_66 ?_
          refine lv_iload_n hx hb dX1_round_69 rfl (lv_at hl 3 rfl) ?_
          refine va_lald hx hb hK hP 1 0 rfl rfl (out_in c_5) dX1_round_70 ?_
          refine lv_lstore (lv' := [(6, .long (u.2.1 a.toNatClampNeg)), (4, .long (gP ((4 : Int32) - d).toNatClampNeg)), (0, .ref m0), (1, .int r), (2, .int a)]) hx hb dX1_round_71 hl (by decide) rfl (fun ls hl => ?_)
          refine lv_lload hx hb dX1_round_73 (lv_at hl 0 rfl) ?_
          refine g_callSl S hs (tX1_size l t (u.2.1 a.toNatClampNeg)) ml_X1_39 st_yX1_size in_X1 cd_yX1_size hd_yX1_size ⟨by decide, by decide⟩ hE hS hA hl.1 rfl (Nat.le_of_ble_eq_true rfl) ⟨by decide, by decide⟩ dX1_round_75 (fun r_10 hr_10 => ?_)
          subst hr_10
          refine lv_lload hx hb dX1_round_78 (lv_at hl 1 rfl) ?_
          refine lv_ldiv hx hb dX1_round_80 (gP_ne (g_ixD (by assumption) (by assumption))) ?_
          refine lv_lload hx hb dX1_round_81 (lv_at hl 1 rfl) ?_
          refine lv_lmul hx hb dX1_round_83 ?_
          refine lv_lstore (lv' := [(8, .long (((jX1_size (u.2.1 a.toNatClampNeg)) / (gP ((4 : Int32) - d).toNatClampNeg)) * (gP ((4 : Int32) - d).toNatClampNeg))), (6, .long (u.2.1 a.toNatClampNeg)), (4, .long (gP ((4 : Int32) - d).toNatClampNeg)), (0, .ref m0), (1, .int r), (2, .int a)]) hx hb dX1_round_84 hl (by decide) rfl (fun ls hl => ?_)
          refine lv_lload hx hb dX1_round_86 (lv_at hl 1 rfl) ?_
          refine g_callSl S hs (tX1_size l t (u.2.1 a.toNatClampNeg)) ml_X1_39 st_yX1_size in_X1 cd_yX1_size hd_yX1_size ⟨by decide, by decide⟩ hE hS hA hl.1 rfl (Nat.le_of_ble_eq_true rfl) ⟨by decide, by decide⟩ dX1_round_88 (fun r_11 hr_11 => ?_)
          subst hr_11
          refine lv_lload hx hb dX1_round_91 (lv_at hl 0 rfl) ?_
          refine lv_lsub hx hb dX1_round_93 ?_
          refine lv_lstore (lv' := [(10, .long ((jX1_size (u.2.1 a.toNatClampNeg)) - (((jX1_size (u.2.1 a.toNatClampNeg)) / (gP ((4 : Int32) - d).toNatClampNeg)) * (gP ((4 : Int32) - d).toNatClampNeg)))), (8, .long (((jX1_size (u.2.1 a.toNatClampNeg)) / (gP ((4 : Int32) - d).toNatClampNeg)) * (gP ((4 : Int32) - d).toNatClampNeg))), (6, .long (u.2.1 a.toNatClampNeg)), (4, .long (gP ((4 : Int32) - d).toNatClampNeg)), (0, .ref m0), (1, .int r), (2, .int a)]) hx hb dX1_round_94 hl (by decide) rfl (fun ls hl => ?_)
          refine lv_lload hx hb dX1_round_96 (lv_at hl 0 rfl) ?_
          refine lv_lload hx hb dX1_round_98 (lv_at hl 3 rfl) ?_
          refine lv_lload hx hb dX1_round_100 (lv_at hl 0 rfl) ?_
          refine lv_lsub hx hb dX1_round_102 ?_
          refine g_lc_lt (tgt := 114) hx hb dX1_round_103 dX1_round_104 (by decide) (fun c_12 => ?_) (fun c_12 => ?_)
          · refine lv_aload_n hx hb dX1_round_114 rfl (lv_at hl 4 rfl) ?_
            refine lv_iload_n hx hb dX1_round_115 rfl (lv_at hl 5 rfl) ?_
            refine lv_lload hx hb dX1_round_116 (lv_at hl 2 rfl) ?_
            refine lv_lconst (v := 0) hx hb dX1_round_118 (by decide) ?_
            refine g_lc_ge (tgt := 127) hx hb dX1_round_119 dX1_round_120 (by decide) (fun c_13 => ?_) (fun c_13 => ?_)
            · refine lv_iconst (v := 0) hx hb dX1_round_127 (by decide) ?_
              refine lv_lload hx hb dX1_round_128 (lv_at hl 1 rfl) ?_
              refine lv_iconst (v := 2) hx hb dX1_round_130 (by decide) ?_
              refine g_callMl S hs (tX1_put l t D m0 m1 m2 cJ cI ((0 : Int32), u.2.1, u.2.2) r (0 : Int32) (((jX1_size (u.2.1 a.toNatClampNeg)) / (gP ((4 : Int32) - d).toNatClampNeg)) * (gP ((4 : Int32) - d).toNatClampNeg)) (2 : Int32) (out_in (by assumption))) rfl ml_X1_43 im_yX1_put se_yX1_put cd_yX1_put hd_yX1_put ⟨by decide, by decide⟩ hE hS hA hP hK hD hl.1 rfl (Nat.le_of_ble_eq_true rfl) ⟨by decide, by decide⟩ dX1_round_131 (fun r_14 u_14 H locs hr_14 hP hD hS => ?_)
              obtain ⟨rfl, rfl⟩ := hr_14
              exact W.lret (v := (kput ((0 : Int32), u.2.1, u.2.2) r (0 : Int32) (((jX1_size (u.2.1 a.toNatClampNeg)) / (gP ((4 : Int32) - d).toNatClampNeg)) * (gP ((4 : Int32) - d).toNatClampNeg)) (2 : Int32)).1) hx hb hr (fun t9 ht9 hW9 => ⟨⟨(kput ((0 : Int32), u.2.1, u.2.2) r (0 : Int32) (((jX1_size (u.2.1 a.toNatClampNeg)) / (gP ((4 : Int32) - d).toNatClampNeg)) * (gP ((4 : Int32) - d).toNatClampNeg)) (2 : Int32)).1, (kput ((0 : Int32), u.2.1, u.2.2) r (0 : Int32) (((jX1_size (u.2.1 a.toNatClampNeg)) / (gP ((4 : Int32) - d).toNatClampNeg)) * (gP ((4 : Int32) - d).toNatClampNeg)) (2 : Int32)).2, rfl, (⟨by rw [kround, if_pos c_2, if_pos c_5, if_neg c_7, if_pos c_9, if_pos c_12, if_pos c_13], by rw [kround, if_pos c_2, if_pos c_5, if_neg c_7, if_pos c_9, if_pos c_12, if_pos c_13]⟩), by rw [ht9]; exact hP, va_K.moved hW9.alike hK, hD⟩, hS.F ht9⟩) hS.2.2 dX1_round_134 hlocks
            · refine lv_iconst (v := 1) hx hb dX1_round_123 (by decide) ?_
              refine lv_goto (tgt := 128) hx hb dX1_round_124 (by decide) ?_
              refine lv_lload hx hb dX1_round_128 (lv_at hl 1 rfl) ?_
              refine lv_iconst (v := 2) hx hb dX1_round_130 (by decide) ?_
              refine g_callMl S hs (tX1_put l t D m0 m1 m2 cJ cI ((0 : Int32), u.2.1, u.2.2) r (1 : Int32) (((jX1_size (u.2.1 a.toNatClampNeg)) / (gP ((4 : Int32) - d).toNatClampNeg)) * (gP ((4 : Int32) - d).toNatClampNeg)) (2 : Int32) (out_in (by assumption))) rfl ml_X1_43 im_yX1_put se_yX1_put cd_yX1_put hd_yX1_put ⟨by decide, by decide⟩ hE hS hA hP hK hD hl.1 rfl (Nat.le_of_ble_eq_true rfl) ⟨by decide, by decide⟩ dX1_round_131 (fun r_15 u_15 H locs hr_15 hP hD hS => ?_)
              obtain ⟨rfl, rfl⟩ := hr_15
              exact W.lret (v := (kput ((0 : Int32), u.2.1, u.2.2) r (1 : Int32) (((jX1_size (u.2.1 a.toNatClampNeg)) / (gP ((4 : Int32) - d).toNatClampNeg)) * (gP ((4 : Int32) - d).toNatClampNeg)) (2 : Int32)).1) hx hb hr (fun t9 ht9 hW9 => ⟨⟨(kput ((0 : Int32), u.2.1, u.2.2) r (1 : Int32) (((jX1_size (u.2.1 a.toNatClampNeg)) / (gP ((4 : Int32) - d).toNatClampNeg)) * (gP ((4 : Int32) - d).toNatClampNeg)) (2 : Int32)).1, (kput ((0 : Int32), u.2.1, u.2.2) r (1 : Int32) (((jX1_size (u.2.1 a.toNatClampNeg)) / (gP ((4 : Int32) - d).toNatClampNeg)) * (gP ((4 : Int32) - d).toNatClampNeg)) (2 : Int32)).2, rfl, (⟨by rw [kround, if_pos c_2, if_pos c_5, if_neg c_7, if_pos c_9, if_pos c_12, if_neg c_13], by rw [kround, if_pos c_2, if_pos c_5, if_neg c_7, if_pos c_9, if_pos c_12, if_neg c_13]⟩), by rw [ht9]; exact hP, va_K.moved hW9.alike hK, hD⟩, hS.F ht9⟩) hS.2.2 dX1_round_134 hlocks
          · refine lv_lload hx hb dX1_round_107 (lv_at hl 1 rfl) ?_
            refine lv_lload hx hb dX1_round_109 (lv_at hl 3 rfl) ?_
            refine lv_ladd hx hb dX1_round_111 ?_
            refine lv_lstore (lv' := [(8, .long ((((jX1_size (u.2.1 a.toNatClampNeg)) / (gP ((4 : Int32) - d).toNatClampNeg)) * (gP ((4 : Int32) - d).toNatClampNeg)) + (gP ((4 : Int32) - d).toNatClampNeg))), (10, .long ((jX1_size (u.2.1 a.toNatClampNeg)) - (((jX1_size (u.2.1 a.toNatClampNeg)) / (gP ((4 : Int32) - d).toNatClampNeg)) * (gP ((4 : Int32) - d).toNatClampNeg)))), (6, .long (u.2.1 a.toNatClampNeg)), (4, .long (gP ((4 : Int32) - d).toNatClampNeg)), (0, .ref m0), (1, .int r), (2, .int a)]) hx hb dX1_round_112 hl (by decide) rfl (fun ls hl => ?_)
            refine lv_aload_n hx hb dX1_round_114 rfl (lv_at hl 4 rfl) ?_
            refine lv_iload_n hx hb dX1_round_115 rfl (lv_at hl 5 rfl) ?_
            refine lv_lload hx hb dX1_round_116 (lv_at hl 2 rfl) ?_
            refine lv_lconst (v := 0) hx hb dX1_round_118 (by decide) ?_
            refine g_lc_ge (tgt := 127) hx hb dX1_round_119 dX1_round_120 (by decide) (fun c_16 => ?_) (fun c_16 => ?_)
            · refine lv_iconst (v := 0) hx hb dX1_round_127 (by decide) ?_
              refine lv_lload hx hb dX1_round_128 (lv_at hl 0 rfl) ?_
              refine lv_iconst (v := 2) hx hb dX1_round_130 (by decide) ?_
              refine g_callMl S hs (tX1_put l t D m0 m1 m2 cJ cI ((0 : Int32), u.2.1, u.2.2) r (0 : Int32) ((((jX1_size (u.2.1 a.toNatClampNeg)) / (gP ((4 : Int32) - d).toNatClampNeg)) * (gP ((4 : Int32) - d).toNatClampNeg)) + (gP ((4 : Int32) - d).toNatClampNeg)) (2 : Int32) (out_in (by assumption))) rfl ml_X1_43 im_yX1_put se_yX1_put cd_yX1_put hd_yX1_put ⟨by decide, by decide⟩ hE hS hA hP hK hD hl.1 rfl (Nat.le_of_ble_eq_true rfl) ⟨by decide, by decide⟩ dX1_round_131 (fun r_17 u_17 H locs hr_17 hP hD hS => ?_)
              obtain ⟨rfl, rfl⟩ := hr_17
              exact W.lret (v := (kput ((0 : Int32), u.2.1, u.2.2) r (0 : Int32) ((((jX1_size (u.2.1 a.toNatClampNeg)) / (gP ((4 : Int32) - d).toNatClampNeg)) * (gP ((4 : Int32) - d).toNatClampNeg)) + (gP ((4 : Int32) - d).toNatClampNeg)) (2 : Int32)).1) hx hb hr (fun t9 ht9 hW9 => ⟨⟨(kput ((0 : Int32), u.2.1, u.2.2) r (0 : Int32) ((((jX1_size (u.2.1 a.toNatClampNeg)) / (gP ((4 : Int32) - d).toNatClampNeg)) * (gP ((4 : Int32) - d).toNatClampNeg)) + (gP ((4 : Int32) - d).toNatClampNeg)) (2 : Int32)).1, (kput ((0 : Int32), u.2.1, u.2.2) r (0 : Int32) ((((jX1_size (u.2.1 a.toNatClampNeg)) / (gP ((4 : Int32) - d).toNatClampNeg)) * (gP ((4 : Int32) - d).toNatClampNeg)) + (gP ((4 : Int32) - d).toNatClampNeg)) (2 : Int32)).2, rfl, (⟨by rw [kround, if_pos c_2, if_pos c_5, if_neg c_7, if_pos c_9, if_neg c_12, if_pos c_16], by rw [kround, if_pos c_2, if_pos c_5, if_neg c_7, if_pos c_9, if_neg c_12, if_pos c_16]⟩), by rw [ht9]; exact hP, va_K.moved hW9.alike hK, hD⟩, hS.F ht9⟩) hS.2.2 dX1_round_134 hlocks
            · refine lv_iconst (v := 1) hx hb dX1_round_123 (by decide) ?_
              refine lv_goto (tgt := 128) hx hb dX1_round_124 (by decide) ?_
              refine lv_lload hx hb dX1_round_128 (lv_at hl 0 rfl) ?_
              refine lv_iconst (v := 2) hx hb dX1_round_130 (by decide) ?_
              refine g_callMl S hs (tX1_put l t D m0 m1 m2 cJ cI ((0 : Int32), u.2.1, u.2.2) r (1 : Int32) ((((jX1_size (u.2.1 a.toNatClampNeg)) / (gP ((4 : Int32) - d).toNatClampNeg)) * (gP ((4 : Int32) - d).toNatClampNeg)) + (gP ((4 : Int32) - d).toNatClampNeg)) (2 : Int32) (out_in (by assumption))) rfl ml_X1_43 im_yX1_put se_yX1_put cd_yX1_put hd_yX1_put ⟨by decide, by decide⟩ hE hS hA hP hK hD hl.1 rfl (Nat.le_of_ble_eq_true rfl) ⟨by decide, by decide⟩ dX1_round_131 (fun r_18 u_18 H locs hr_18 hP hD hS => ?_)
              obtain ⟨rfl, rfl⟩ := hr_18
              exact W.lret (v := (kput ((0 : Int32), u.2.1, u.2.2) r (1 : Int32) ((((jX1_size (u.2.1 a.toNatClampNeg)) / (gP ((4 : Int32) - d).toNatClampNeg)) * (gP ((4 : Int32) - d).toNatClampNeg)) + (gP ((4 : Int32) - d).toNatClampNeg)) (2 : Int32)).1) hx hb hr (fun t9 ht9 hW9 => ⟨⟨(kput ((0 : Int32), u.2.1, u.2.2) r (1 : Int32) ((((jX1_size (u.2.1 a.toNatClampNeg)) / (gP ((4 : Int32) - d).toNatClampNeg)) * (gP ((4 : Int32) - d).toNatClampNeg)) + (gP ((4 : Int32) - d).toNatClampNeg)) (2 : Int32)).1, (kput ((0 : Int32), u.2.1, u.2.2) r (1 : Int32) ((((jX1_size (u.2.1 a.toNatClampNeg)) / (gP ((4 : Int32) - d).toNatClampNeg)) * (gP ((4 : Int32) - d).toNatClampNeg)) + (gP ((4 : Int32) - d).toNatClampNeg)) (2 : Int32)).2, rfl, (⟨by rw [kround, if_pos c_2, if_pos c_5, if_neg c_7, if_pos c_9, if_neg c_12, if_neg c_16], by rw [kround, if_pos c_2, if_pos c_5, if_neg c_7, if_pos c_9, if_neg c_12, if_neg c_16]⟩), by rw [ht9]; exact hP, va_K.moved hW9.alike hK, hD⟩, hS.F ht9⟩) hS.2.2 dX1_round_134 hlocks
        · refine lv_aload_n hx hb dX1_round_32 rfl (lv_at hl 0 rfl) ?_
          refine lv_iconst (v := 1) hx hb dX1_round_33 (by decide) ?_
          refine g_callMi S hs (tX1_fail l t D m0 m1 m2 cJ cI ((0 : Int32), u.2.1, u.2.2) (1 : Int32)) rfl ml_X1_29 im_yX1_fail se_yX1_fail cd_yX1_fail hd_yX1_fail ⟨by decide, by decide⟩ hE hS hA hP hK hD hl.1 rfl (Nat.le_of_ble_eq_true rfl) ⟨by decide, by decide⟩ dX1_round_34 (fun r_19 u_19 H locs hr_19 hP hD hS => ?_)
          obtain ⟨rfl, rfl⟩ := hr_19
          refine lv_i2l hx hb dX1_round_37 rfl ?_
          exact W.lret (v := ((kfail ((0 : Int32), u.2.1, u.2.2) (1 : Int32)).1).toInt64) hx hb hr (fun t9 ht9 hW9 => ⟨⟨((kfail ((0 : Int32), u.2.1, u.2.2) (1 : Int32)).1).toInt64, (kfail ((0 : Int32), u.2.1, u.2.2) (1 : Int32)).2, rfl, (⟨by rw [kround, if_pos c_2, if_pos c_5, if_neg c_7, if_neg c_9], by rw [kround, if_pos c_2, if_pos c_5, if_neg c_7, if_neg c_9]⟩), by rw [ht9]; exact hP, va_K.moved hW9.alike hK, hD⟩, hS.F ht9⟩) hS.2.2 dX1_round_38 hlocks
def kaverage (u : mS) (n : Int32) : Int64 × mS :=
  if n < (1 : Int32) then
    (((kfail ((0 : Int32), u.2.1, u.2.2) (1 : Int32)).1).toInt64, (kfail ((0 : Int32), u.2.1, u.2.2) (1 : Int32)).2)
  else if n ≤ (8 : Int32) then
    kopt (kavgF u.2.1 n.toNatClampNeg 9 0 0) ((((kfail ((0 : Int32), u.2.1, u.2.2) (2 : Int32)).1).toInt64, (kfail ((0 : Int32), u.2.1, u.2.2) (2 : Int32)).2)) fun v =>
      if (0 : Int64) ≤ v then
        (kquotient (jX1_size v) ((10000 : Int64) * n.toInt64), ((0 : Int32), u.2.1, u.2.2))
      else (-(kquotient (jX1_size v) ((10000 : Int64) * n.toInt64)), ((0 : Int32), u.2.1, u.2.2))
  else (((kfail ((0 : Int32), u.2.1, u.2.2) (1 : Int32)).1).toInt64, (kfail ((0 : Int32), u.2.1, u.2.2) (1 : Int32)).2)
set_option maxHeartbeats 4000000 in
set_option maxRecDepth 100000 in
theorem tX1_average (l : Launch) (t : Nat) (D : va_G) (m0 m1 m2 : Nat) (cJ cI : ClassId) (u : mS) (n : Int32) : gMl l yX1_average cX1_average 6 { frames := 2, cells := 0, slots := 0, locals := 60 } t D m0 m1 m2 cJ cI u [.int n] (fun z9 u9 => z9 = (kaverage u n).1 ∧ u9 = (kaverage u n).2) := by
  refine g_openMl (by decide +kernel) (Nat.le_of_ble_eq_true rfl) ?_
  intro p e s m below meth c ls A hA S hr hlocks hE hP hK hD hl
  obtain ⟨hx, hb, hml, hown, hts⟩ := id S
  have hs : ∀ w ∈ gws, w ∈ Cond.code yX1_average cX1_average 6 (some .long) :: gws := fun w h => List.mem_cons_of_mem _ h
  have hS : va_S A s.heap s.heap [] := va_S.rf
  have hl : lv_has ls 6 [(0, .ref m0), (1, .int n)] := hl
  refine lv_aload_n hx hb dX1_average_0 rfl (lv_at hl 0 rfl) ?_
  refine lv_iconst (v := 0) hx hb dX1_average_1 (by decide) ?_
  refine va_put (ci := 1) (v := .int (0 : Int32)) (ty := .int) (C := RX1) (T := TX1) (N := 3) hx hb hts (fun w h => hs _ (inX1g w h)) tyX1 tyX1_ok nmX1 hown hK hP hD hS 0 rfl rfl 0 (by decide) (hts _ (hs _ fl_X1_17)) (fun _ h9 => h9) rfl (by decide +kernel) rfl rfl (Nat.le_of_ble_eq_true rfl) dX1_average_2 (fun H locs hP hD hS => ?_)
  have hP : va_P D vwCl (wM m0 m1 m2 cJ cI ((0 : Int32), u.2.1, u.2.2)) H := hP
  have hD : va_D A (wM m0 m1 m2 cJ cI ((0 : Int32), u.2.1, u.2.2)) := hD
  refine lv_iload_n hx hb dX1_average_5 rfl (lv_at hl 1 rfl) ?_
  refine lv_iconst (v := 1) hx hb dX1_average_6 (by decide) ?_
  refine lv_icmp_lt (tgt := 16) hx hb dX1_average_7 (by decide) (fun c_1 => ?_) (fun c_1 => ?_)
  · refine lv_aload_n hx hb dX1_average_16 rfl (lv_at hl 0 rfl) ?_
    refine lv_iconst (v := 1) hx hb dX1_average_17 (by decide) ?_
    refine g_callMi S hs (tX1_fail l t D m0 m1 m2 cJ cI ((0 : Int32), u.2.1, u.2.2) (1 : Int32)) rfl ml_X1_29 im_yX1_fail se_yX1_fail cd_yX1_fail hd_yX1_fail ⟨by decide, by decide⟩ hE hS hA hP hK hD hl.1 rfl (Nat.le_of_ble_eq_true rfl) ⟨by decide, by decide⟩ dX1_average_18 (fun r_2 u_2 H locs hr_2 hP hD hS => ?_)
    obtain ⟨rfl, rfl⟩ := hr_2
    refine lv_i2l hx hb dX1_average_21 rfl ?_
    exact W.lret (v := ((kfail ((0 : Int32), u.2.1, u.2.2) (1 : Int32)).1).toInt64) hx hb hr (fun t9 ht9 hW9 => ⟨⟨((kfail ((0 : Int32), u.2.1, u.2.2) (1 : Int32)).1).toInt64, (kfail ((0 : Int32), u.2.1, u.2.2) (1 : Int32)).2, rfl, (⟨by rw [kaverage, if_pos c_1], by rw [kaverage, if_pos c_1]⟩), by rw [ht9]; exact hP, va_K.moved hW9.alike hK, hD⟩, hS.F ht9⟩) hS.2.2 dX1_average_22 hlocks
  · refine lv_iload_n hx hb dX1_average_10 rfl (lv_at hl 1 rfl) ?_
    refine lv_bipush (v := 8) hx hb dX1_average_11 (by decide) ?_
    refine lv_icmp_le (tgt := 23) hx hb dX1_average_13 (by decide) (fun c_3 => ?_) (fun c_3 => ?_)
    · refine lv_lconst (v := 0) hx hb dX1_average_23 (by decide) ?_
      refine lv_lstore_n (lv' := [(2, .long (0 : Int64)), (0, .ref m0), (1, .int n)]) hx hb dX1_average_24 rfl hl (by decide) rfl (fun ls hl => ?_)
      refine lv_iconst (v := 0) hx hb dX1_average_25 (by decide) ?_
      refine lv_istore (lv' := [(4, .int (0 : Int32)), (2, .long (0 : Int64)), (0, .ref m0), (1, .int n)]) hx hb dX1_average_26 hl (by decide) rfl (fun ls hl => ?_)
      obtain ⟨N, hN1, hN8, hN⟩ := g_n8 c_1 c_3
      have eN : n.toNatClampNeg = N := by rw [hN, nI_clamp (by omega)]
      refine kavg_loop (u := ((0 : Int32), u.2.1, u.2.2)) S hE hS hA hP hK hN hN8 (fun hv ls hl => ?_) (fun v hv ls hl => ?_) 9 0 0 ls (by omega) (by omega) rfl hl
      · rw [← eN] at hv
        refine lv_aload_n hx hb dX1_average_55 rfl (lv_at hl 0 rfl) ?_
        refine lv_iconst (v := 2) hx hb dX1_average_56 (by decide) ?_
        refine g_callMi S hs (tX1_fail l t D m0 m1 m2 cJ cI ((0 : Int32), u.2.1, u.2.2) (2 : Int32)) rfl ml_X1_29 im_yX1_fail se_yX1_fail cd_yX1_fail hd_yX1_fail ⟨by decide, by decide⟩ hE hS hA hP hK hD hl.1 rfl (Nat.le_of_ble_eq_true rfl) ⟨by decide, by decide⟩ dX1_average_57 (fun r_4 u_4 H locs hr_4 hP hD hS => ?_)
        obtain ⟨rfl, rfl⟩ := hr_4
        refine lv_i2l hx hb dX1_average_60 rfl ?_
        exact W.lret (v := ((kfail ((0 : Int32), u.2.1, u.2.2) (2 : Int32)).1).toInt64) hx hb hr (fun t9 ht9 hW9 => ⟨⟨((kfail ((0 : Int32), u.2.1, u.2.2) (2 : Int32)).1).toInt64, (kfail ((0 : Int32), u.2.1, u.2.2) (2 : Int32)).2, rfl, (⟨by rw [kaverage, if_neg c_1, if_pos c_3, hv, kopt_none], by rw [kaverage, if_neg c_1, if_pos c_3, hv, kopt_none]⟩), by rw [ht9]; exact hP, va_K.moved hW9.alike hK, hD⟩, hS.F ht9⟩) hS.2.2 dX1_average_61 hlocks
      · rw [← eN] at hv
        have hq9 : ¬ (10000 : Int64) * n.toInt64 = 0 := by rw [hN]; exact g_n8K N (by omega) hN1
        refine lv_aload_n hx hb dX1_average_68 rfl (lv_at hl 1 rfl) ?_
        refine lv_lload_n hx hb dX1_average_69 rfl (lv_at hl 0 rfl) ?_
        refine g_callSl S hs (tX1_size l t v) ml_X1_39 st_yX1_size in_X1 cd_yX1_size hd_yX1_size ⟨by decide, by decide⟩ hE hS hA hl.1 rfl (Nat.le_of_ble_eq_true rfl) ⟨by decide, by decide⟩ dX1_average_70 (fun r_5 hr_5 => ?_)
        subst hr_5
        refine lv_ldc2 hx hb hown (hts _ (hs _ kl_X1_33)) dX1_average_73 ?_
        refine lv_iload_n hx hb dX1_average_76 rfl (lv_at hl 2 rfl) ?_
        refine lv_i2l hx hb dX1_average_77 rfl ?_
        refine lv_lmul hx hb dX1_average_78 ?_
        refine g_callPl S hs (tX1_quotient l m0 (jX1_size v) ((10000 : Int64) * n.toInt64) hq9) (va_recv hK hP (ci := 1) (q0 := 0) rfl rfl) ml_X1_51 im_yX1_quotient se_yX1_quotient in_X1 cd_yX1_quotient hd_yX1_quotient ⟨by decide, by decide⟩ hl.1 rfl (Nat.le_of_ble_eq_true rfl) ⟨by decide, by decide⟩ dX1_average_79 (fun r_6 hr_6 => ?_)
        subst hr_6
        refine lv_lstore (lv' := [(4, .long (kquotient (jX1_size v) ((10000 : Int64) * n.toInt64))), (2, .long v), (0, .ref m0), (1, .int n)]) hx hb dX1_average_82 hl (by decide) rfl (fun ls hl => ?_)
        refine lv_lload_n hx hb dX1_average_84 rfl (lv_at hl 1 rfl) ?_
        refine lv_lconst (v := 0) hx hb dX1_average_85 (by decide) ?_
        refine g_lc_ge (tgt := 96) hx hb dX1_average_86 dX1_average_87 (by decide) (fun c_7 => ?_) (fun c_7 => ?_)
        · refine lv_lload hx hb dX1_average_96 (lv_at hl 0 rfl) ?_
          exact W.lret (v := kquotient (jX1_size v) ((10000 : Int64) * n.toInt64)) hx hb hr (fun t9 ht9 hW9 => ⟨⟨kquotient (jX1_size v) ((10000 : Int64) * n.toInt64), ((0 : Int32), u.2.1, u.2.2), rfl, (⟨by rw [kaverage, if_neg c_1, if_pos c_3, hv, kopt_some, if_pos c_7], by rw [kaverage, if_neg c_1, if_pos c_3, hv, kopt_some, if_pos c_7]⟩), by rw [ht9]; exact hP, va_K.moved hW9.alike hK, hD⟩, hS.F ht9⟩) hS.2.2 dX1_average_98 hlocks
        · refine lv_lload hx hb dX1_average_90 (lv_at hl 0 rfl) ?_
          refine lv_lneg hx hb dX1_average_92 ?_
          refine lv_goto (tgt := 98) hx hb dX1_average_93 (by decide) ?_
          exact W.lret (v := -(kquotient (jX1_size v) ((10000 : Int64) * n.toInt64))) hx hb hr (fun t9 ht9 hW9 => ⟨⟨-(kquotient (jX1_size v) ((10000 : Int64) * n.toInt64)), ((0 : Int32), u.2.1, u.2.2), rfl, (⟨by rw [kaverage, if_neg c_1, if_pos c_3, hv, kopt_some, if_neg c_7], by rw [kaverage, if_neg c_1, if_pos c_3, hv, kopt_some, if_neg c_7]⟩), by rw [ht9]; exact hP, va_K.moved hW9.alike hK, hD⟩, hS.F ht9⟩) hS.2.2 dX1_average_98 hlocks
    · refine lv_aload_n hx hb dX1_average_16 rfl (lv_at hl 0 rfl) ?_
      refine lv_iconst (v := 1) hx hb dX1_average_17 (by decide) ?_
      refine g_callMi S hs (tX1_fail l t D m0 m1 m2 cJ cI ((0 : Int32), u.2.1, u.2.2) (1 : Int32)) rfl ml_X1_29 im_yX1_fail se_yX1_fail cd_yX1_fail hd_yX1_fail ⟨by decide, by decide⟩ hE hS hA hP hK hD hl.1 rfl (Nat.le_of_ble_eq_true rfl) ⟨by decide, by decide⟩ dX1_average_18 (fun r_8 u_8 H locs hr_8 hP hD hS => ?_)
      obtain ⟨rfl, rfl⟩ := hr_8
      refine lv_i2l hx hb dX1_average_21 rfl ?_
      exact W.lret (v := ((kfail ((0 : Int32), u.2.1, u.2.2) (1 : Int32)).1).toInt64) hx hb hr (fun t9 ht9 hW9 => ⟨⟨((kfail ((0 : Int32), u.2.1, u.2.2) (1 : Int32)).1).toInt64, (kfail ((0 : Int32), u.2.1, u.2.2) (1 : Int32)).2, rfl, (⟨by rw [kaverage, if_neg c_1, if_neg c_3], by rw [kaverage, if_neg c_1, if_neg c_3]⟩), by rw [ht9]; exact hP, va_K.moved hW9.alike hK, hD⟩, hS.F ht9⟩) hS.2.2 dX1_average_22 hlocks
set_option maxHeartbeats 4000000 in
set_option maxRecDepth 100000 in
/-- the reference's constructor -/
theorem tX1_init (l : Launch) (D : va_G) (m0 sz : Nat) : Met l yX1_init (Cond.code yX1_init cX1_init 1 none :: gws) ({ frames := 1, cells := 2, slots := 32, locals := 12 }) (va_Pc [.ref m0] (fun U => U.heap.size = sz ∧ va_P D vwCl [(m0, .inr (1, [.int 0, .null, .null]))] U.heap ∧ va_K D vwCl [] U ∧ va_D (fun _ => True) [(m0, .inr (1, [.int 0, .null, .null]))]))
    (va_Qv (fun _ : Unit => True) (fun _ t' => ∃ (m1 m2 : Nat) (cJ cI : ClassId), va_P D vwCl (wM m0 m1 m2 cJ cI (0, fun _ => 0, fun _ => 0)) t'.heap ∧ va_K D vwCl [(cJ, .long), (cI, .int)] t' ∧ va_D (va_A [(m0, .inr (1, [.int 0, .null, .null]))] sz) (wM m0 m1 m2 cJ cI (0, fun _ => 0, fun _ => 0))) (va_A [(m0, .inr (1, [.int 0, .null, .null]))] sz)) 2 32 (va_A [(m0, .inr (1, [.int 0, .null, .null]))] sz) := by
  refine Met.ofW (cc := cX1_init) (maxL := 1) (ret := none) (by decide) rfl ?_
  intro p e s m args below meth c s₁ B hml hv
  obtain ⟨rfl, hsz, hP, hK, hD0⟩ := hv
  have hx := B.exec
  have hb := B.bytes
  have hr := B.returns
  have hts := atoms_spec (ws := Cond.code yX1_init cX1_init 1 none :: gws) B.pre
  have hs : ∀ w ∈ gws, w ∈ Cond.code yX1_init cX1_init 1 none :: gws := fun w h => List.mem_cons_of_mem _ h
  have hown : s.vm.findClass RX1 = some m.cls := findClass_of_methodNamed B.named
  have hlocks := B.notSynchronized
  have hin : meth.name = "<init>" := (name_of_methodNamed B.named B.method).1
  subst hsz
  have hD := hD0.self (sz := s.heap.size)
  generalize hAe : va_A [(m0, .inr (1, [.int 0, .null, .null]))] s.heap.size = A at hD ⊢
  have hA : ∀ q : Nat, s.heap.size ≤ q → A q := fun q h => by rw [← hAe]; exact Or.inr h
  have hS : va_S A s.heap s.heap [] := va_S.rf
  have hl := lv_entry ([.ref m0]) (n := 1) (Nat.le_of_ble_eq_true rfl)
  rw [lg_entry_eq]
  generalize (lg_sl ([.ref m0]) ++ List.replicate (1 - (lg_sl ([.ref m0])).length) Slot.unset).toArray = ls at hl ⊢
  have hl : lv_has ls 1 [(0, .ref m0)] := hl
  refine lv_aload_n hx hb dX1_init_0 rfl (lv_at hl 0 rfl) ?_
  refine W.objInit hx hb hown (hts _ (hs _ ml_X1_1)) (hts _ (hs _ im_objectInit)) (hts _ (hs _ cd_objectInit)) rfl (by rw [hml]; exact hl.1) rfl dX1_init_1 (Nat.le_of_ble_eq_true rfl) (Nat.le_of_ble_eq_true rfl) ?_
  refine W.eq (g2 := F0 m 4 ls []) rfl ?_
  refine lv_aload_n hx hb dX1_init_4 rfl (lv_at hl 0 rfl) ?_
  refine lv_bipush (v := 8) hx hb dX1_init_5 (by decide) ?_
  refine va_newa (atype := .long) hx hb (hts _ (hs _ ac_long)) rfl hK hP hD hS hA (N' := 8) (a0 := (8, .inr (.inl (fun _ => 0)))) (fun cA => rfl) (by decide) (by decide) (by decide) (by decide) (by decide) dX1_init_7 (fun q cA H hK hP hD hS => ?_)
  refine va_putF (ci := 1) (v := .ref q) (ty := .array .long) (C := RX1) (T := TX1) (N := 3) hx hb hts (fun w h => hs _ (inX1g w h)) tyX1 tyX1_ok nmX1 hown hK hP hD hS 0 rfl rfl 1 (by decide) (hts _ (hs _ fl_X1_7)) (fun _ h9 => h9) rfl hin rfl (by decide +kernel) rfl rfl (Nat.le_of_ble_eq_true rfl) dX1_init_9 (fun H locs hP hD hS => ?_)
  refine lv_aload_n hx hb dX1_init_12 rfl (lv_at hl 0 rfl) ?_
  refine lv_bipush (v := 24) hx hb dX1_init_13 (by decide) ?_
  refine va_newa (atype := .int) hx hb (hts _ (hs _ ac_int)) rfl hK hP hD hS hA (N' := 24) (a0 := (24, .inl (fun _ => 0))) (fun cA => rfl) (by decide) (by decide) (by decide) (by decide) (by decide) dX1_init_15 (fun q2 cB H hK hP hD hS => ?_)
  refine va_putF (ci := 1) (v := .ref q2) (ty := .array .int) (C := RX1) (T := TX1) (N := 3) hx hb hts (fun w h => hs _ (inX1g w h)) tyX1 tyX1_ok nmX1 hown hK hP hD hS 0 rfl rfl 2 (by decide) (hts _ (hs _ fl_X1_13)) (fun _ h9 => h9) rfl hin rfl (by decide +kernel) rfl rfl (Nat.le_of_ble_eq_true rfl) dX1_init_17 (fun H locs hP hD hS => ?_)
  have hP : va_P D vwCl (wM m0 q q2 cA cB (0, fun _ => 0, fun _ => 0)) H := hP
  have hD : va_D A (wM m0 q q2 cA cB (0, fun _ => 0, fun _ => 0)) := hD
  exact W.vret hx hb hr (fun t ht hW => ⟨⟨(), rfl, trivial, q, q2, cA, cB, by rw [ht]; exact hP, va_K.moved hW.alike hK, hD⟩, hS.F ht⟩) hS.2.2 dX1_init_20
end
section
/-! ===== the reference's print ===== -/
theorem lN_lit10000 : (10000 : Int64) = lN 10000 := by decide
theorem lN_lit9 : (9 : Int64) = lN 9 := by decide
theorem lN_lit10 : (10 : Int64) = lN 10 := by decide
theorem lN_lit48 : (48 : Int64) = lN 48 := by decide
theorem lN_lit0 : (0 : Int64) = lN 0 := by decide
theorem lN_lit1000 : (1000 : Int64) = lN 1000 := by decide
theorem lN_lit1 : (1 : Int64) = lN 1 := by decide
theorem p10_pos (k : Nat) : 0 < 10 ^ k := Nat.pow_pos (by decide)
theorem p10_le {a b : Nat} (h : a ≤ b) : 10 ^ a ≤ 10 ^ b := Nat.pow_le_pow_right (by decide) h
theorem p10_lt {k : Nat} (h : k ≤ 12) : 10 ^ k < 2 ^ 63 := Nat.lt_of_le_of_lt (p10_le h) (by decide)
theorem lN_ne0 {n : Nat} (h0 : 0 < n) (h : n < 2 ^ 63) : ¬ lN n = 0 := by
  rw [lN_lit0, pk_lEQ h (by decide)]
  omega
/-- 10 to the (k - 1), 0 for k = 0 -/
def kpw : Nat → Nat
  | 0 => 0
  | k + 1 => 10 ^ k
theorem kpw_div (k : Nat) : 10 ^ k / 10 = kpw k := by
  cases k with
  | zero => rfl
  | succ k => rw [Nat.pow_succ]; exact Nat.mul_div_cancel _ (by decide)
theorem kpw_pos {k : Nat} (h : 0 < k) : 0 < kpw k := by
  cases k with
  | zero => omega
  | succ k => exact p10_pos k
section KP
variable {p : Program} {l : Launch} {e : Env} {R : Room} {s : State} {m : MethodId} {args : Array Value} {below : List Frame} {meth : Method} {c : Code} {H : Heap} {locs : List Loc} {cells slots : Nat} {Q : State → Prop}
variable {D : va_G} {m0 m1 m2 : Nat} {cJ cI : ClassId} {f : Nat → Int64} {A : Nat → Prop} {U w n0 : Nat} {a i : Int32} {T : Nat → Int32}
set_option maxHeartbeats 4000000 in
set_option maxRecDepth 100000 in
theorem kp1 (S : CallFix p m c cX1_print 12 s args (Cond.code yX1_print cX1_print 12 (some .int) :: gws) RX1) (hU : U < 2 ^ 62) (hw : w ≤ 11) (hwA : ∀ k, k + 1 < w → 10 ^ (k + 1) ≤ U / 10000) (hwB : U / 10000 < 10 ^ w) {v : Int32}
    (kk : ∀ ls : Array Slot, lv_has ls 12 [(6, .long (lN (10 ^ (w - 1)))), (3, .int v), (4, .long (lN U)), (0, .ref m0), (1, .int a), (2, .int i)] → W p l e R s m args below meth c H locs cells slots Q (F0 m 88 ls [])) :
    ∀ (j k : Nat) (ls : Array Slot), k + 1 + j = w → lv_has ls 12 [(6, .long (lN (10 ^ k))), (3, .int v), (4, .long (lN U)), (0, .ref m0), (1, .int a), (2, .int i)] → W p l e R s m args below meth c H locs cells slots Q (F0 m 61 ls []) := by
  obtain ⟨hx, hb, hml, hown, hts⟩ := id S
  have hs : ∀ w ∈ gws, w ∈ Cond.code yX1_print cX1_print 12 (some .int) :: gws := fun w h => List.mem_cons_of_mem _ h
  intro j
  induction j with
  | zero =>
    intro k ls hk hl
    refine lv_lload hx hb dX1_print_61 (lv_at hl 2 rfl) ?_
    refine lv_ldc2 hx hb hown (hts _ (hs _ kl_X1_33)) dX1_print_63 ?_
    refine lv_ldiv hx hb dX1_print_66 (by decide) ?_
    refine lv_lload hx hb dX1_print_67 (lv_at hl 0 rfl) ?_
    refine lv_ldiv hx hb dX1_print_69 (lN_ne0 (p10_pos k) (p10_lt (by omega))) ?_
    refine lv_ldc2 hx hb hown (hts _ (hs _ kl_X1_60)) dX1_print_70 ?_
    rw [lN_lit10000, pk_lDiv (by omega) (by decide) (by decide), pk_lDiv (by omega) (p10_pos k) (p10_lt (by omega)), lN_lit9]
    refine g_lc_le (tgt := 88) hx hb dX1_print_73 dX1_print_74 (by decide) (fun c_1 => ?_) (fun c_1 => ?_)
    · refine kk ls ?_
      rw [show w - 1 = k from by omega]
      exact hl
    · exfalso
      refine c_1 ((pk_lLE (Nat.lt_of_le_of_lt (Nat.div_le_self _ _) (by omega)) (by decide)).mpr ?_)
      have h2 : U / 10000 / 10 ^ k < 10 := Nat.div_lt_of_lt_mul (by rw [← Nat.pow_succ]; rw [show k.succ = w from by omega]; exact hwB)
      omega
  | succ j ih =>
    intro k ls hk hl
    refine lv_lload hx hb dX1_print_61 (lv_at hl 2 rfl) ?_
    refine lv_ldc2 hx hb hown (hts _ (hs _ kl_X1_33)) dX1_print_63 ?_
    refine lv_ldiv hx hb dX1_print_66 (by decide) ?_
    refine lv_lload hx hb dX1_print_67 (lv_at hl 0 rfl) ?_
    refine lv_ldiv hx hb dX1_print_69 (lN_ne0 (p10_pos k) (p10_lt (by omega))) ?_
    refine lv_ldc2 hx hb hown (hts _ (hs _ kl_X1_60)) dX1_print_70 ?_
    rw [lN_lit10000, pk_lDiv (by omega) (by decide) (by decide), pk_lDiv (by omega) (p10_pos k) (p10_lt (by omega)), lN_lit9]
    refine g_lc_le (tgt := 88) hx hb dX1_print_73 dX1_print_74 (by decide) (fun c_1 => ?_) (fun c_1 => ?_)
    · exfalso
      rw [pk_lLE (Nat.lt_of_le_of_lt (Nat.div_le_self _ _) (by omega)) (by decide)] at c_1
      have h1 := hwA k (by omega)
      have h2 : 10 ≤ U / 10000 / 10 ^ k := (Nat.le_div_iff_mul_le (p10_pos k)).mpr (by rw [Nat.pow_succ, Nat.mul_comm] at h1; exact h1)
      omega
    · refine lv_lload hx hb dX1_print_77 (lv_at hl 0 rfl) ?_
      refine lv_ldc2 hx hb hown (hts _ (hs _ kl_X1_58)) dX1_print_79 ?_
      refine lv_lmul hx hb dX1_print_82 ?_
      rw [lN_lit10, lN_mul, ← Nat.pow_succ]
      refine lv_lstore (lv' := [(6, .long (lN (10 ^ (k + 1)))), (3, .int v), (4, .long (lN U)), (0, .ref m0), (1, .int a), (2, .int i)]) hx hb dX1_print_83 hl (by decide) rfl (fun ls hl => ?_)
      refine lv_goto (tgt := 61) hx hb dX1_print_85 (by decide) ?_
      exact ih (k + 1) ls (by omega) hl
set_option maxHeartbeats 4000000 in
set_option maxRecDepth 100000 in
theorem kp2 (S : CallFix p m c cX1_print 12 s args (Cond.code yX1_print cX1_print 12 (some .int) :: gws) RX1) (hK : va_K D vwCl [(cJ, .long), (cI, .int)] s) (hU : U < 2 ^ 62) (hw : w ≤ 11) (hn0 : n0 ≤ 1) (hT : ∀ d, d < w → T (n0 + d) = nI (48 + U / 10000 / 10 ^ (w - 1 - d) % 10))
    (kk : ∀ (g : Nat → Int32) (H : Heap) (locs : List Loc) (ls : Array Slot), (∀ q, q < n0 + w → g q = T q) → va_P D vwCl (wM m0 m1 m2 cJ cI (0, f, g)) H → va_D A (wM m0 m1 m2 cJ cI (0, f, g)) → va_S A s.heap H locs → lv_has ls 12 [(3, .int (nI (n0 + w))), (4, .long (lN U)), (0, .ref m0), (1, .int a), (2, .int i)] → W p l e R s m args below meth c H locs cells slots Q (F0 m 133 ls [])) :
    ∀ (k : Nat) (g : Nat → Int32) (H : Heap) (locs : List Loc) (ls : Array Slot), k ≤ w → (∀ q, q < n0 + (w - k) → g q = T q) → va_P D vwCl (wM m0 m1 m2 cJ cI (0, f, g)) H → va_D A (wM m0 m1 m2 cJ cI (0, f, g)) → va_S A s.heap H locs → lv_has ls 12 [(6, .long (lN (kpw k))), (3, .int (nI (n0 + (w - k)))), (4, .long (lN U)), (0, .ref m0), (1, .int a), (2, .int i)] → W p l e R s m args below meth c H locs cells slots Q (F0 m 88 ls []) := by
  obtain ⟨hx, hb, hml, hown, hts⟩ := id S
  have hs : ∀ w ∈ gws, w ∈ Cond.code yX1_print cX1_print 12 (some .int) :: gws := fun w h => List.mem_cons_of_mem _ h
  intro k
  induction k with
  | zero =>
    intro g H locs ls hk hg hP hD hS hl
    refine lv_lload hx hb dX1_print_88 (lv_at hl 0 rfl) ?_
    refine lv_lconst (v := 0) hx hb dX1_print_90 (by decide) ?_
    refine g_lc_le (tgt := 133) hx hb dX1_print_91 dX1_print_92 (by decide) (fun c_1 => ?_) (fun c_1 => absurd (by decide) c_1)
    exact kk g H locs ls (by simpa using hg) hP hD hS (lv_sub hl [1, 2, 3, 4, 5] rfl)
  | succ k ih =>
    intro g H locs ls hk hg hP hD hS hl
    have hkp : kpw (k + 1) = 10 ^ k := rfl
    rw [hkp] at hl
    have hlt : 10 ^ k < 2 ^ 63 := p10_lt (by omega)
    refine lv_lload hx hb dX1_print_88 (lv_at hl 0 rfl) ?_
    refine lv_lconst (v := 0) hx hb dX1_print_90 (by decide) ?_
    refine g_lc_le (tgt := 133) hx hb dX1_print_91 dX1_print_92 (by decide) (fun c_1 => ?_) (fun c_1 => ?_)
    · exfalso
      rw [lN_lit0, pk_lLE hlt (by decide)] at c_1
      have := p10_pos k
      omega
    · refine lv_aload_n hx hb dX1_print_95 rfl (lv_at hl 3 rfl) ?_
      refine va_get (ci := 1) (v := .ref m2) (C := RX1) (T := TX1) (N := 3) hx hb hts (fun w h => hs _ (inX1g w h)) hown hK hP 0 rfl rfl 2 (by decide) (hts _ (hs _ fl_X1_13)) (fun _ h9 => h9) rfl dX1_print_96 ?_
      refine lv_iload_n hx hb dX1_print_99 rfl (lv_at hl 1 rfl) ?_
      refine lv_iinc (lv' := [(3, .int (nI (n0 + (w - (k + 1))) + 1)), (6, .long (lN (10 ^ k))), (4, .long (lN U)), (0, .ref m0), (1, .int a), (2, .int i)]) hx hb dX1_print_100 hl (k := 1) rfl rfl (by decide) rfl (fun ls hl => ?_)
      refine lv_ldc2 hx hb hown (hts _ (hs _ kl_X1_62)) dX1_print_103 ?_
      refine lv_lload hx hb dX1_print_106 (lv_at hl 2 rfl) ?_
      refine lv_ldc2 hx hb hown (hts _ (hs _ kl_X1_33)) dX1_print_108 ?_
      refine lv_ldiv hx hb dX1_print_111 (by decide) ?_
      refine lv_lload hx hb dX1_print_112 (lv_at hl 1 rfl) ?_
      refine lv_ldiv hx hb dX1_print_114 (lN_ne0 (p10_pos k) hlt) ?_
      refine lv_ldc2 hx hb hown (hts _ (hs _ kl_X1_58)) dX1_print_115 ?_
      refine lv_lrem hx hb dX1_print_118 (by decide) ?_
      refine lv_ladd hx hb dX1_print_119 ?_
      rw [lN_lit10000, pk_lDiv (by omega) (by decide) (by decide), pk_lDiv (by omega) (p10_pos k) hlt, lN_lit10, pk_lRem (Nat.lt_of_le_of_lt (Nat.div_le_self _ _) (by omega)) (by decide) (by decide), lN_lit48, lN_add]
      refine lv_l2i hx hb dX1_print_120 (lN_i _) ?_
      have hix : n0 + (w - (k + 1)) < 24 := by omega
      refine va_iast hx hb hK hP hD hS 2 1 rfl rfl (vp_in_nI hix (by decide)) dX1_print_121 (fun H locs hP hD hS => ?_)
      rw [nI_clamp (by omega)] at hP hD
      have hP : va_P D vwCl (wM m0 m1 m2 cJ cI (0, f, upd g (n0 + (w - (k + 1))) (nI (48 + U / 10000 / 10 ^ k % 10)))) H := hP
      have hD : va_D A (wM m0 m1 m2 cJ cI (0, f, upd g (n0 + (w - (k + 1))) (nI (48 + U / 10000 / 10 ^ k % 10)))) := hD
      refine lv_lload hx hb dX1_print_122 (lv_at hl 1 rfl) ?_
      refine lv_ldc2 hx hb hown (hts _ (hs _ kl_X1_58)) dX1_print_124 ?_
      refine lv_ldiv hx hb dX1_print_127 (by decide) ?_
      rw [lN_lit10, pk_lDiv hlt (by decide) (by decide), kpw_div]
      refine lv_lstore (lv' := [(6, .long (lN (kpw k))), (3, .int (nI (n0 + (w - (k + 1))) + 1)), (4, .long (lN U)), (0, .ref m0), (1, .int a), (2, .int i)]) hx hb dX1_print_128 hl (by decide) rfl (fun ls hl => ?_)
      refine lv_goto (tgt := 88) hx hb dX1_print_130 (by decide) ?_
      rw [nI_1, show n0 + (w - (k + 1)) + 1 = n0 + (w - k) from by omega] at hl
      refine ih _ H locs ls (by omega) (fun q hq => ?_) hP hD hS hl
      by_cases hq2 : q = n0 + (w - (k + 1))
      · subst hq2
        rw [pk_us, hT _ (by omega), show w - 1 - (w - (k + 1)) = k from by omega]
      · rw [pk_un hq2]
        exact hg q (by omega)
/-- 10 to the (3 - j), 0 for j = 4 -/
theorem kq_div {j : Nat} (hj : j ≤ 3) : kpw (4 - j) / 10 = kpw (4 - (j + 1)) := by
  rw [show 4 - j = (3 - j) + 1 from by omega, show 4 - (j + 1) = 3 - j from by omega]
  exact kpw_div (3 - j)
set_option maxHeartbeats 4000000 in
set_option maxRecDepth 100000 in
theorem kp3 (S : CallFix p m c cX1_print 12 s args (Cond.code yX1_print cX1_print 12 (some .int) :: gws) RX1) (hK : va_K D vwCl [(cJ, .long), (cI, .int)] s) {F n1 : Nat} (hF : F < 10000) (hn1 : n1 ≤ 13) (hT3 : ∀ j, j < 4 → ¬ F % 10 ^ (4 - j) = 0 → T (n1 + j) = nI (48 + F % 10 ^ (4 - j) / 10 ^ (3 - j)))
    (kk : ∀ (j : Nat) (g : Nat → Int32) (H : Heap) (locs : List Loc) (ls : Array Slot), j ≤ 4 → F % 10 ^ (4 - j) = 0 → (∀ q, q < n1 + j → g q = T q) → va_P D vwCl (wM m0 m1 m2 cJ cI (0, f, g)) H → va_D A (wM m0 m1 m2 cJ cI (0, f, g)) → va_S A s.heap H locs → lv_has ls 12 [(3, .int (nI (n1 + j))), (0, .ref m0), (1, .int a), (2, .int i)] → W p l e R s m args below meth c H locs cells slots Q (F0 m 208 ls [])) :
    ∀ (r j : Nat) (g : Nat → Int32) (H : Heap) (locs : List Loc) (ls : Array Slot), j + r = 4 → (∀ q, q < n1 + j → g q = T q) → va_P D vwCl (wM m0 m1 m2 cJ cI (0, f, g)) H → va_D A (wM m0 m1 m2 cJ cI (0, f, g)) → va_S A s.heap H locs → lv_has ls 12 [(10, .long (lN (kpw (4 - j)))), (8, .long (lN (F % 10 ^ (4 - j)))), (3, .int (nI (n1 + j))), (0, .ref m0), (1, .int a), (2, .int i)] → W p l e R s m args below meth c H locs cells slots Q (F0 m 164 ls []) := by
  obtain ⟨hx, hb, hml, hown, hts⟩ := id S
  have hs : ∀ w ∈ gws, w ∈ Cond.code yX1_print cX1_print 12 (some .int) :: gws := fun w h => List.mem_cons_of_mem _ h
  intro r
  induction r with
  | zero =>
    intro j g H locs ls hj hg hP hD hS hl
    have hj4 : j = 4 := by omega
    subst hj4
    have e1 : F % 10 ^ (4 - 4) = 0 := Nat.mod_one F
    rw [e1] at hl
    refine lv_lload hx hb dX1_print_164 (lv_at hl 1 rfl) ?_
    refine lv_lconst (v := 0) hx hb dX1_print_166 (by decide) ?_
    refine g_lc_le (tgt := 208) hx hb dX1_print_167 dX1_print_168 (by decide) (fun c_1 => ?_) (fun c_1 => absurd (by decide) c_1)
    exact kk 4 g H locs ls (by omega) e1 hg hP hD hS (lv_sub hl [2, 3, 4, 5] rfl)
  | succ r ih =>
    intro j g H locs ls hj hg hP hD hS hl
    have hFlt : F % 10 ^ (4 - j) < 2 ^ 63 := Nat.lt_of_le_of_lt (Nat.mod_le _ _) (by omega)
    refine lv_lload hx hb dX1_print_164 (lv_at hl 1 rfl) ?_
    refine lv_lconst (v := 0) hx hb dX1_print_166 (by decide) ?_
    refine g_lc_le (tgt := 208) hx hb dX1_print_167 dX1_print_168 (by decide) (fun c_1 => ?_) (fun c_1 => ?_)
    · rw [lN_lit0, pk_lLE hFlt (by decide)] at c_1
      exact kk j g H locs ls (by omega) (by omega) hg hP hD hS (lv_sub hl [2, 3, 4, 5] rfl)
    · rw [lN_lit0, pk_lLE hFlt (by decide)] at c_1
      have hkq : kpw (4 - j) = 10 ^ (3 - j) := by rw [show 4 - j = (3 - j) + 1 from by omega]; rfl
      have hq0 : 0 < kpw (4 - j) := kpw_pos (by omega)
      have hqlt : kpw (4 - j) < 2 ^ 63 := by rw [hkq]; exact p10_lt (by omega)
      refine lv_aload_n hx hb dX1_print_171 rfl (lv_at hl 3 rfl) ?_
      refine va_get (ci := 1) (v := .ref m2) (C := RX1) (T := TX1) (N := 3) hx hb hts (fun w h => hs _ (inX1g w h)) hown hK hP 0 rfl rfl 2 (by decide) (hts _ (hs _ fl_X1_13)) (fun _ h9 => h9) rfl dX1_print_172 ?_
      refine lv_iload_n hx hb dX1_print_175 rfl (lv_at hl 2 rfl) ?_
      refine lv_iinc (lv' := [(3, .int (nI (n1 + j) + 1)), (10, .long (lN (kpw (4 - j)))), (8, .long (lN (F % 10 ^ (4 - j)))), (0, .ref m0), (1, .int a), (2, .int i)]) hx hb dX1_print_176 hl (k := 2) rfl rfl (by decide) rfl (fun ls hl => ?_)
      refine lv_ldc2 hx hb hown (hts _ (hs _ kl_X1_62)) dX1_print_179 ?_
      refine lv_lload hx hb dX1_print_182 (lv_at hl 2 rfl) ?_
      refine lv_lload hx hb dX1_print_184 (lv_at hl 1 rfl) ?_
      refine lv_ldiv hx hb dX1_print_186 (lN_ne0 hq0 hqlt) ?_
      refine lv_ladd hx hb dX1_print_187 ?_
      rw [pk_lDiv hFlt hq0 hqlt, lN_lit48, lN_add]
      refine lv_l2i hx hb dX1_print_188 (lN_i _) ?_
      refine va_iast hx hb hK hP hD hS 2 1 rfl rfl (vp_in_nI (by omega) (by decide)) dX1_print_189 (fun H locs hP hD hS => ?_)
      rw [nI_clamp (by omega)] at hP hD
      have hP : va_P D vwCl (wM m0 m1 m2 cJ cI (0, f, upd g (n1 + j) (nI (48 + F % 10 ^ (4 - j) / kpw (4 - j))))) H := hP
      have hD : va_D A (wM m0 m1 m2 cJ cI (0, f, upd g (n1 + j) (nI (48 + F % 10 ^ (4 - j) / kpw (4 - j))))) := hD
      refine lv_lload hx hb dX1_print_190 (lv_at hl 2 rfl) ?_
      refine lv_lload hx hb dX1_print_192 (lv_at hl 1 rfl) ?_
      refine lv_lrem hx hb dX1_print_194 (lN_ne0 hq0 hqlt) ?_
      have e2 : F % 10 ^ (4 - j) % kpw (4 - j) = F % 10 ^ (4 - (j + 1)) := by
        rw [hkq, show 4 - (j + 1) = 3 - j from by omega]
        exact Nat.mod_mod_of_dvd _ (Nat.pow_dvd_pow 10 (by omega))
      rw [pk_lRem hFlt hq0 hqlt, e2]
      refine lv_lstore (lv' := [(8, .long (lN (F % 10 ^ (4 - (j + 1))))), (3, .int (nI (n1 + j) + 1)), (10, .long (lN (kpw (4 - j)))), (0, .ref m0), (1, .int a), (2, .int i)]) hx hb dX1_print_195 hl (by decide) rfl (fun ls hl => ?_)
      refine lv_lload hx hb dX1_print_197 (lv_at hl 2 rfl) ?_
      refine lv_ldc2 hx hb hown (hts _ (hs _ kl_X1_58)) dX1_print_199 ?_
      refine lv_ldiv hx hb dX1_print_202 (by decide) ?_
      rw [lN_lit10, pk_lDiv hqlt (by decide) (by decide), kq_div (by omega)]
      refine lv_lstore (lv' := [(10, .long (lN (kpw (4 - (j + 1))))), (8, .long (lN (F % 10 ^ (4 - (j + 1))))), (3, .int (nI (n1 + j) + 1)), (0, .ref m0), (1, .int a), (2, .int i)]) hx hb dX1_print_203 hl (by decide) rfl (fun ls hl => ?_)
      refine lv_goto (tgt := 164) hx hb dX1_print_205 (by decide) ?_
      rw [nI_1] at hl
      refine ih (j + 1) _ H locs ls (by omega) (fun q hq => ?_) hP hD hS hl
      by_cases hq2 : q = n1 + j
      · subst hq2
        rw [pk_us, hT3 j (by omega) (by omega), hkq]
      · rw [pk_un hq2]
        exact hg q (by omega)
end KP
end
section
/-! ===== the reference's print, whole ===== -/
section KT
variable {p : Program} {l : Launch} {e : Env} {R : Room} {s : State} {m : MethodId} {args : Array Value} {below : List Frame} {meth : Method} {c : Code} {H : Heap} {locs : List Loc} {cells slots : Nat} {Q : State → Prop}
variable {D : va_G} {m0 m1 m2 : Nat} {cJ cI : ClassId} {f : Nat → Int64} {A : Nat → Prop} {U w n0 : Nat} {a i : Int32} {T : Nat → Int32}
set_option maxHeartbeats 4000000 in
set_option maxRecDepth 100000 in
theorem ktail (S : CallFix p m c cX1_print 12 s args (Cond.code yX1_print cX1_print 12 (some .int) :: gws) RX1) (hK : va_K D vwCl [(cJ, .long), (cI, .int)] s) (hU : U < 2 ^ 62) (hw1 : 1 ≤ w) (hw : w ≤ 11) (hwA : ∀ k, k + 1 < w → 10 ^ (k + 1) ≤ U / 10000) (hwB : U / 10000 < 10 ^ w) (hn0 : n0 ≤ 1)
    (hT1 : ∀ d, d < w → T (n0 + d) = nI (48 + U / 10000 / 10 ^ (w - 1 - d) % 10)) (hT2 : 0 < U % 10000 → T (n0 + w) = 46)
    (hT3 : 0 < U % 10000 → ∀ j, j < 4 → ¬ U % 10000 % 10 ^ (4 - j) = 0 → T (n0 + w + 1 + j) = nI (48 + U % 10000 % 10 ^ (4 - j) / 10 ^ (3 - j)))
    (hT4 : U % 10000 = 0 → ∀ q, n0 + w ≤ q → T q = -1) (hT5 : 0 < U % 10000 → ∀ j, j ≤ 4 → U % 10000 % 10 ^ (4 - j) = 0 → ∀ q, n0 + w + 1 + j ≤ q → T q = -1)
    {x : Nat} (hi : i = nI x) (hx31 : x < 2 ^ 31)
    (kk : ∀ (g : Nat → Int32) (H : Heap) (locs : List Loc) (ls : Array Slot), va_P D vwCl (wM m0 m1 m2 cJ cI (0, f, g)) H → va_D A (wM m0 m1 m2 cJ cI (0, f, g)) → va_S A s.heap H locs → W p l e R s m args below meth c H locs cells slots Q (F0 m 223 ls [.int (T x)])) :
    ∀ (g : Nat → Int32) (H : Heap) (locs : List Loc) (ls : Array Slot), (∀ q, q < n0 → g q = T q) → va_P D vwCl (wM m0 m1 m2 cJ cI (0, f, g)) H → va_D A (wM m0 m1 m2 cJ cI (0, f, g)) → va_S A s.heap H locs → lv_has ls 12 [(3, .int (nI n0)), (4, .long (lN U)), (0, .ref m0), (1, .int a), (2, .int i)] → W p l e R s m args below meth c H locs cells slots Q (F0 m 58 ls []) := by
  obtain ⟨hx, hb, hml, hown, hts⟩ := id S
  have hs : ∀ w ∈ gws, w ∈ Cond.code yX1_print cX1_print 12 (some .int) :: gws := fun w h => List.mem_cons_of_mem _ h
  -- the end, with n bytes printed
  have fin : ∀ (n : Nat) (g : Nat → Int32) (H : Heap) (locs : List Loc) (ls : Array Slot), n < 24 → (∀ q, q < n → g q = T q) → (∀ q, n ≤ q → T q = -1) → va_P D vwCl (wM m0 m1 m2 cJ cI (0, f, g)) H → va_D A (wM m0 m1 m2 cJ cI (0, f, g)) → va_S A s.heap H locs → lv_has ls 12 [(3, .int (nI n)), (0, .ref m0), (1, .int a), (2, .int i)] → W p l e R s m args below meth c H locs cells slots Q (F0 m 208 ls []) := by
    intro n g H locs ls hn hg hT hP hD hS hl
    subst hi
    refine lv_iload_n hx hb dX1_print_208 rfl (lv_at hl 3 rfl) ?_
    refine lv_iload_n hx hb dX1_print_209 rfl (lv_at hl 0 rfl) ?_
    refine lv_icmp_ge (tgt := 222) hx hb dX1_print_210 (by decide) (fun c_1 => ?_) (fun c_1 => ?_)
    · rw [nI_leI (by omega) hx31] at c_1
      refine lv_iconst (v := (-1)) hx hb dX1_print_222 (by decide) ?_
      have h9 := kk g H locs ls hP hD hS
      rw [hT x c_1] at h9
      exact h9
    · rw [nI_leI (by omega) hx31] at c_1
      refine lv_aload_n hx hb dX1_print_213 rfl (lv_at hl 1 rfl) ?_
      refine va_get (ci := 1) (v := .ref m2) (C := RX1) (T := TX1) (N := 3) hx hb hts (fun w h => hs _ (inX1g w h)) hown hK hP 0 rfl rfl 2 (by decide) (hts _ (hs _ fl_X1_13)) (fun _ h9 => h9) rfl dX1_print_214 ?_
      refine lv_iload_n hx hb dX1_print_217 rfl (lv_at hl 3 rfl) ?_
      refine va_iald hx hb hK hP 2 1 rfl rfl (vp_in_nI (by omega) (by decide)) dX1_print_218 ?_
      refine lv_goto (tgt := 223) hx hb dX1_print_219 (by decide) ?_
      rw [nI_clamp hx31]
      have h9 := kk g H locs ls hP hD hS
      rw [← hg x (by omega)] at h9
      exact h9
  intro g H locs ls hg hP hD hS hl
  refine lv_lconst (v := 1) hx hb dX1_print_58 (by decide) ?_
  refine lv_lstore (lv' := [(6, .long (1 : Int64)), (3, .int (nI n0)), (4, .long (lN U)), (0, .ref m0), (1, .int a), (2, .int i)]) hx hb dX1_print_59 hl (by decide) rfl (fun ls hl => ?_)
  refine kp1 S hU hw hwA hwB (fun ls hl => ?_) (w - 1) 0 ls (by omega) hl
  refine kp2 (T := T) S hK hU hw hn0 hT1 (fun g H locs ls hg hP hD hS hl => ?_) w g H locs ls (Nat.le_refl w) (by rw [Nat.sub_self]; exact hg) hP hD hS (by rw [Nat.sub_self, show kpw w = 10 ^ (w - 1) from by cases w with | zero => omega | succ w => rfl]; exact hl)
  have hFlt : U % 10000 < 10000 := Nat.mod_lt _ (by decide)
  refine lv_lload hx hb dX1_print_133 (lv_at hl 1 rfl) ?_
  refine lv_ldc2 hx hb hown (hts _ (hs _ kl_X1_33)) dX1_print_135 ?_
  refine lv_lrem hx hb dX1_print_138 (by decide) ?_
  rw [lN_lit10000, pk_lRem (by omega) (by decide) (by decide)]
  refine lv_lstore (lv' := [(8, .long (lN (U % 10000))), (3, .int (nI (n0 + w))), (4, .long (lN U)), (0, .ref m0), (1, .int a), (2, .int i)]) hx hb dX1_print_139 hl (by decide) rfl (fun ls hl => ?_)
  refine lv_lload hx hb dX1_print_141 (lv_at hl 0 rfl) ?_
  refine lv_lconst (v := 0) hx hb dX1_print_143 (by decide) ?_
  refine g_lc_le (tgt := 159) hx hb dX1_print_144 dX1_print_145 (by decide) (fun c_1 => ?_) (fun c_1 => ?_)
  · rw [lN_lit0, pk_lLE (by omega) (by decide)] at c_1
    have hF0 : U % 10000 = 0 := by omega
    refine lv_ldc2 hx hb hown (hts _ (hs _ kl_X1_64)) dX1_print_159 ?_
    refine lv_lstore (lv' := [(10, .long (1000 : Int64)), (8, .long (lN (U % 10000))), (3, .int (nI (n0 + w))), (4, .long (lN U)), (0, .ref m0), (1, .int a), (2, .int i)]) hx hb dX1_print_162 hl (by decide) rfl (fun ls hl => ?_)
    refine kp3 (T := T) (F := U % 10000) (n1 := n0 + w) S hK hFlt (by omega) (fun j _ h => absurd (by rw [hF0]; exact Nat.zero_mod _) h) (fun j g H locs ls hj hz hg hP hD hS hl => ?_) 4 0 g H locs ls (by omega) hg hP hD hS (by rw [show U % 10000 % 10 ^ (4 - 0) = U % 10000 from Nat.mod_eq_of_lt hFlt]; exact lv_sub hl [0, 1, 2, 4, 5, 6] rfl)
    refine fin (n0 + w + j) g H locs ls (by omega) hg (fun q hq => hT4 hF0 q (by omega)) hP hD hS hl
  · rw [lN_lit0, pk_lLE (by omega) (by decide)] at c_1
    have hF0 : 0 < U % 10000 := by omega
    refine lv_aload_n hx hb dX1_print_148 rfl (lv_at hl 3 rfl) ?_
    refine va_get (ci := 1) (v := .ref m2) (C := RX1) (T := TX1) (N := 3) hx hb hts (fun w h => hs _ (inX1g w h)) hown hK hP 0 rfl rfl 2 (by decide) (hts _ (hs _ fl_X1_13)) (fun _ h9 => h9) rfl dX1_print_149 ?_
    refine lv_iload_n hx hb dX1_print_152 rfl (lv_at hl 1 rfl) ?_
    refine lv_iinc (lv' := [(3, .int (nI (n0 + w) + 1)), (8, .long (lN (U % 10000))), (4, .long (lN U)), (0, .ref m0), (1, .int a), (2, .int i)]) hx hb dX1_print_153 hl (k := 1) rfl rfl (by decide) rfl (fun ls hl => ?_)
    refine lv_bipush (v := 46) hx hb dX1_print_156 (by decide) ?_
    refine va_iast hx hb hK hP hD hS 2 1 rfl rfl (vp_in_nI (by omega) (by decide)) dX1_print_158 (fun H locs hP hD hS => ?_)
    rw [nI_clamp (by omega)] at hP hD
    have hP : va_P D vwCl (wM m0 m1 m2 cJ cI (0, f, upd g (n0 + w) 46)) H := hP
    have hD : va_D A (wM m0 m1 m2 cJ cI (0, f, upd g (n0 + w) 46)) := hD
    refine lv_ldc2 hx hb hown (hts _ (hs _ kl_X1_64)) dX1_print_159 ?_
    refine lv_lstore (lv' := [(10, .long (1000 : Int64)), (3, .int (nI (n0 + w) + 1)), (8, .long (lN (U % 10000))), (4, .long (lN U)), (0, .ref m0), (1, .int a), (2, .int i)]) hx hb dX1_print_162 hl (by decide) rfl (fun ls hl => ?_)
    rw [nI_1] at hl
    refine kp3 (T := T) (F := U % 10000) (n1 := n0 + w + 1) S hK hFlt (by omega) (fun j hj h => hT3 hF0 j hj h) (fun j g H locs ls hj hz hg hP hD hS hl => ?_) 4 0 _ H locs ls (by omega) (fun q hq => ?_) hP hD hS (by rw [show U % 10000 % 10 ^ (4 - 0) = U % 10000 from Nat.mod_eq_of_lt hFlt]; exact lv_sub hl [0, 2, 1, 4, 5, 6] rfl)
    · exact fin (n0 + w + 1 + j) g H locs ls (by omega) hg (fun q hq => hT5 hF0 j hj hz q hq) hP hD hS hl
    · by_cases hq2 : q = n0 + w
      · subst hq2
        rw [pk_us, hT2 hF0]
      · rw [pk_un hq2]
        exact hg q (by omega)
end KT
/-- how many digits stand before the point -/
def kwd (W : Nat) : Nat := jwdF (lN W) 11 1
theorem jwdF_spec {W : Nat} (hW : W < 2 ^ 63) : ∀ n k, 1 ≤ k → k ≤ 11 → 12 ≤ k + n → (∀ c, 1 ≤ c → c < k → 10 ^ c ≤ W) → jwdF (lN W) n k ≤ 11 ∧ 1 ≤ jwdF (lN W) n k ∧ (∀ c, 1 ≤ c → c < jwdF (lN W) n k → 10 ^ c ≤ W) ∧ (W < 10 ^ jwdF (lN W) n k ∨ jwdF (lN W) n k = 11)
  | 0, k, h1, h2, h3, _ => by omega
  | n + 1, k, h1, h2, h3, h4 => by
    rw [jwdF]
    split
    next h =>
      obtain ⟨ha, hb⟩ := h
      have hb' : 10 ^ k ≤ W := (pk_lLE (p10_lt (by omega)) hW).mp hb
      refine jwdF_spec hW n (k + 1) (by omega) (by omega) (by omega) (fun c hc1 hc2 => ?_)
      by_cases e : c = k
      · rw [e]; exact hb'
      · exact h4 c hc1 (by omega)
    next h =>
      refine ⟨h2, h1, h4, ?_⟩
      by_cases e : k = 11
      · exact Or.inr e
      · left
        rcases Nat.lt_or_ge W (10 ^ k) with q | q
        · exact q
        · exact absurd ⟨by omega, (pk_lLE (p10_lt (by omega)) hW).mpr q⟩ h
theorem kwd_spec {W : Nat} (hW : W < 10 ^ 11) : 1 ≤ kwd W ∧ kwd W ≤ 11 ∧ (∀ k, k + 1 < kwd W → 10 ^ (k + 1) ≤ W) ∧ W < 10 ^ kwd W := by
  obtain ⟨h1, h2, h3, h4⟩ := jwdF_spec (W := W) (Nat.lt_trans hW (by decide)) 11 1 (by omega) (by omega) (by omega) (fun c h1 h2 => by omega)
  refine ⟨h2, h1, fun k hk => h3 (k + 1) (by omega) hk, ?_⟩
  rcases h4 with h | h
  · exact h
  · unfold kwd; rw [h]; exact hW
/-- byte q of a size U, as it is printed -/
def kbyte (U q : Nat) : Int32 :=
  if q < kwd (U / 10000) then nI (48 + U / 10000 / 10 ^ (kwd (U / 10000) - 1 - q) % 10)
  else if U % 10000 = 0 ∨ 4 < q - kwd (U / 10000) then -1
  else if q - kwd (U / 10000) = 0 then 46
  else if U % 10000 % 10 ^ (5 - (q - kwd (U / 10000))) = 0 then -1
  else nI (48 + U % 10000 / 10 ^ (4 - (q - kwd (U / 10000))) % 10)
/-- the size of a long, as a natural number -/
def usz (v : Int64) : Nat := v.toInt.natAbs
/-- byte q of the text of v -/
def ktext (v : Int64) (q : Nat) : Int32 := if v < 0 then (if q = 0 then 45 else kbyte (usz v) (q - 1)) else kbyte (usz v) q
theorem kbyte_1 {U d : Nat} (h : d < kwd (U / 10000)) : kbyte U d = nI (48 + U / 10000 / 10 ^ (kwd (U / 10000) - 1 - d) % 10) := by rw [kbyte, if_pos h]
theorem kbyte_2 {U : Nat} (h : 0 < U % 10000) : kbyte U (kwd (U / 10000)) = 46 := by
  rw [kbyte, if_neg (by omega), if_neg (by omega), if_pos (by omega)]
theorem kbyte_3 {U j : Nat} (h : 0 < U % 10000) (hj : j < 4) (hz : ¬ U % 10000 % 10 ^ (4 - j) = 0) : kbyte U (kwd (U / 10000) + 1 + j) = nI (48 + U % 10000 % 10 ^ (4 - j) / 10 ^ (3 - j)) := by
  have e1 : kwd (U / 10000) + 1 + j - kwd (U / 10000) = j + 1 := by omega
  rw [kbyte, if_neg (by omega), e1, if_neg (by omega), if_neg (by omega), show 5 - (j + 1) = 4 - j from by omega, if_neg hz, show 4 - (j + 1) = 3 - j from by omega]
  have e2 : (10 : Nat) ^ (4 - j) = 10 ^ (3 - j) * 10 := by rw [← Nat.pow_succ]; congr 1; omega
  rw [e2, Nat.mod_mul_right_div_self]
theorem kbyte_4 {U q : Nat} (h : U % 10000 = 0) (hq : kwd (U / 10000) ≤ q) : kbyte U q = -1 := by
  rw [kbyte, if_neg (by omega), if_pos (Or.inl h)]
theorem kbyte_5 {U j q : Nat} (h : 0 < U % 10000) (hj : j ≤ 4) (hz : U % 10000 % 10 ^ (4 - j) = 0) (hq : kwd (U / 10000) + 1 + j ≤ q) : kbyte U q = -1 := by
  rw [kbyte, if_neg (by omega)]
  by_cases hb : U % 10000 = 0 ∨ 4 < q - kwd (U / 10000)
  · rw [if_pos hb]
  · rw [if_neg hb, if_neg (by omega), if_pos]
    exact Nat.mod_eq_zero_of_dvd (Nat.dvd_trans (Nat.pow_dvd_pow 10 (by omega)) (Nat.dvd_of_mod_eq_zero hz))
/-- a register's number is in its limits -/
def gBd (v : Int64) : Prop := -900000000000000 ≤ v.toInt ∧ v.toInt ≤ 900000000000000
theorem size_lN {v : Int64} (h : gBd v) : jX1_size v = lN (usz v) := by
  obtain ⟨h1, h2⟩ := h
  unfold jX1_size usz
  split
  next h0 =>
    rw [Int64.le_iff_toInt_le, Int64.toInt_zero] at h0
    apply Int64.toInt_inj.mp
    rw [pk_lT (by omega)]
    omega
  next h0 =>
    rw [Int64.le_iff_toInt_le, Int64.toInt_zero] at h0
    apply Int64.toInt_inj.mp
    rw [pk_lT (by omega), Int64.toInt_neg]
    rw [Int.bmod_eq_of_le (by omega) (by omega)]
    omega
end
section
/-! ===== print of the reference: its contract ===== -/
theorem ktext_at {v : Int64} {n0 : Nat} (h : (v < 0 ∧ n0 = 1) ∨ (¬ v < 0 ∧ n0 = 0)) (q : Nat) : ktext v (n0 + q) = kbyte (usz v) q := by
  rcases h with ⟨h, rfl⟩ | ⟨h, rfl⟩
  · rw [ktext, if_pos h, if_neg (by omega), Nat.add_sub_cancel_left]
  · rw [ktext, if_neg h, Nat.zero_add]
theorem usz_le {v : Int64} (h : gBd v) : usz v ≤ 900000000000000 := by
  obtain ⟨h1, h2⟩ := h
  unfold usz
  omega
set_option maxHeartbeats 4000000 in
set_option maxRecDepth 100000 in
theorem tX1_print (l : Launch) (t : Nat) (D : va_G) (m0 m1 m2 : Nat) (cJ cI : ClassId) (u : mS) (a : Int32) (i : Int32) (hbd : kout a = 0 → gBd (u.2.1 a.toNatClampNeg)) : gMi l yX1_print cX1_print 12 { frames := 2, cells := 0, slots := 0, locals := 60 } t D m0 m1 m2 cJ cI u [.int a, .int i] (fun z9 u9 => u9.2.1 = u.2.1 ∧ (if kout a = 0 ∧ (0 : Int32) ≤ i then z9 = ktext (u.2.1 a.toNatClampNeg) i.toNatClampNeg ∧ u9.1 = 0 else u9.1 = 1)) := by
  refine g_openMi (by decide +kernel) (Nat.le_of_ble_eq_true rfl) ?_
  intro p e s m below meth c ls A hA S hr hlocks hE hP hK hD hl
  obtain ⟨hx, hb, hml, hown, hts⟩ := id S
  have hs : ∀ w ∈ gws, w ∈ Cond.code yX1_print cX1_print 12 (some .int) :: gws := fun w h => List.mem_cons_of_mem _ h
  have hS : va_S A s.heap s.heap [] := va_S.rf
  have hl : lv_has ls 12 [(0, .ref m0), (1, .int a), (2, .int i)] := hl
  refine lv_aload_n hx hb dX1_print_0 rfl (lv_at hl 0 rfl) ?_
  refine lv_iconst (v := 0) hx hb dX1_print_1 (by decide) ?_
  refine va_put (ci := 1) (v := .int (0 : Int32)) (ty := .int) (C := RX1) (T := TX1) (N := 3) hx hb hts (fun w h => hs _ (inX1g w h)) tyX1 tyX1_ok nmX1 hown hK hP hD hS 0 rfl rfl 0 (by decide) (hts _ (hs _ fl_X1_17)) (fun _ h9 => h9) rfl (by decide +kernel) rfl rfl (Nat.le_of_ble_eq_true rfl) dX1_print_2 (fun H locs hP hD hS => ?_)
  have hP : va_P D vwCl (wM m0 m1 m2 cJ cI ((0 : Int32), u.2.1, u.2.2)) H := hP
  have hD : va_D A (wM m0 m1 m2 cJ cI ((0 : Int32), u.2.1, u.2.2)) := hD
  refine lv_aload_n hx hb dX1_print_5 rfl (lv_at hl 0 rfl) ?_
  refine lv_iload_n hx hb dX1_print_6 rfl (lv_at hl 1 rfl) ?_
  refine g_callPi S hs (tX1_out l m0 a) (va_recv hK hP (ci := 1) (q0 := 0) rfl rfl) ml_X1_21 im_yX1_out se_yX1_out in_X1 cd_yX1_out hd_yX1_out ⟨by decide, by decide⟩ hl.1 rfl (Nat.le_of_ble_eq_true rfl) ⟨by decide, by decide⟩ dX1_print_7 (fun r_1 hr_1 => ?_)
  subst hr_1
  refine lv_if_ne (tgt := 17) hx hb dX1_print_10 (by decide) (fun c_2 => ?_) (fun c_2 => ?_)
  · refine lv_aload_n hx hb dX1_print_17 rfl (lv_at hl 0 rfl) ?_
    refine lv_iconst (v := 1) hx hb dX1_print_18 (by decide) ?_
    refine g_callMi S hs (tX1_fail l t D m0 m1 m2 cJ cI ((0 : Int32), u.2.1, u.2.2) (1 : Int32)) rfl ml_X1_29 im_yX1_fail se_yX1_fail cd_yX1_fail hd_yX1_fail ⟨by decide, by decide⟩ hE hS hA hP hK hD hl.1 rfl (Nat.le_of_ble_eq_true rfl) ⟨by decide, by decide⟩ dX1_print_19 (fun r_3 u_3 H locs hr_3 hP hD hS => ?_)
    obtain ⟨rfl, rfl⟩ := hr_3
    exact W.iret (v := (kfail ((0 : Int32), u.2.1, u.2.2) (1 : Int32)).1) hx hb hr (fun t9 ht9 hW9 => ⟨⟨(kfail ((0 : Int32), u.2.1, u.2.2) (1 : Int32)).1, (kfail ((0 : Int32), u.2.1, u.2.2) (1 : Int32)).2, rfl, ⟨rfl, by rw [if_neg (fun q => c_2 q.1)]; rfl⟩, by rw [ht9]; exact hP, va_K.moved hW9.alike hK, hD⟩, hS.F ht9⟩) hS.2.2 dX1_print_22 hlocks
  · refine lv_iload_n hx hb dX1_print_13 rfl (lv_at hl 2 rfl) ?_
    refine lv_if_ge (tgt := 23) hx hb dX1_print_14 (by decide) (fun c_4 => ?_) (fun c_4 => ?_)
    · refine lv_iconst (v := 0) hx hb dX1_print_23 (by decide) ?_
      refine lv_istore_n (lv' := [(3, .int (0 : Int32)), (0, .ref m0), (1, .int a), (2, .int i)]) hx hb dX1_print_24 rfl hl (by decide) rfl (fun ls hl => ?_)
      refine lv_aload_n hx hb dX1_print_25 rfl (lv_at hl 1 rfl) ?_
      refine va_get (ci := 1) (v := .ref m1) (C := RX1) (T := TX1) (N := 3) hx hb hts (fun w h => hs _ (inX1g w h)) hown hK hP 0 rfl rfl 1 (by decide) (hts _ (hs _ fl_X1_7)) (fun _ h9 => h9) rfl dX1_print_26 ?_
      refine lv_iload_n hx hb dX1_print_29 rfl (lv_at hl 2 rfl) ?_
      refine va_lald hx hb hK hP 1 0 rfl rfl (out_in c_2) dX1_print_30 ?_
      refine g_callSl S hs (tX1_size l t (u.2.1 a.toNatClampNeg)) ml_X1_39 st_yX1_size in_X1 cd_yX1_size hd_yX1_size ⟨by decide, by decide⟩ hE hS hA hl.1 rfl (Nat.le_of_ble_eq_true rfl) ⟨by decide, by decide⟩ dX1_print_31 (fun r_5 hr_5 => ?_)
      subst hr_5
      refine lv_lstore (lv' := [(4, .long (jX1_size (u.2.1 a.toNatClampNeg))), (3, .int (0 : Int32)), (0, .ref m0), (1, .int a), (2, .int i)]) hx hb dX1_print_34 hl (by decide) rfl (fun ls hl => ?_)
      refine lv_aload_n hx hb dX1_print_36 rfl (lv_at hl 2 rfl) ?_
      refine va_get (ci := 1) (v := .ref m1) (C := RX1) (T := TX1) (N := 3) hx hb hts (fun w h => hs _ (inX1g w h)) hown hK hP 0 rfl rfl 1 (by decide) (hts _ (hs _ fl_X1_7)) (fun _ h9 => h9) rfl dX1_print_37 ?_
      refine lv_iload_n hx hb dX1_print_40 rfl (lv_at hl 3 rfl) ?_
      refine va_lald hx hb hK hP 1 0 rfl rfl (out_in c_2) dX1_print_41 ?_
      refine lv_lconst (v := 0) hx hb dX1_print_42 (by decide) ?_
      refine g_lc_ge (tgt := 58) hx hb dX1_print_43 dX1_print_44 (by decide) (fun c_6 => ?_) (fun c_6 => ?_)
      · have hv := hbd c_2
        have hle := usz_le hv
        obtain ⟨w1, w2, w3, w4⟩ := kwd_spec (W := usz (u.2.1 a.toNatClampNeg) / 10000) (by omega)
        obtain ⟨x, hx31, hix⟩ := nI_of (Int32.not_lt.mpr c_4)
        have hT := fun q => ktext_at (v := (u.2.1 a.toNatClampNeg)) (n0 := 0) (Or.inr ⟨Int64.not_lt.mpr c_6, rfl⟩) q
        have hl9 := lv_sub hl [1, 0, 2, 3, 4] rfl
        rw [size_lN hv] at hl9
        refine ktail (T := ktext (u.2.1 a.toNatClampNeg)) (n0 := 0) S hK (by omega) w1 w2 w3 w4 (by omega) (fun d hd => by rw [hT, kbyte_1 hd]) (fun hF => by rw [hT, kbyte_2 hF]) (fun hF j hj hz => by rw [Nat.add_assoc 0, Nat.add_assoc 0, hT, kbyte_3 hF hj hz]) (fun hF q hq => by rw [show q = 0 + (q - 0) from by omega, hT, kbyte_4 hF (by omega)]) (fun hF j hj hz q hq => by rw [show q = 0 + (q - 0) from by omega, hT, kbyte_5 hF hj hz (by omega)]) hix hx31 (fun g H locs ls hP hD hS => ?_) _ H locs ls (fun q hq => absurd hq (Nat.not_lt_zero q)) hP hD hS hl9
        exact W.iret (v := ktext (u.2.1 a.toNatClampNeg) x) hx hb hr (fun t9 ht9 hW9 => ⟨⟨ktext (u.2.1 a.toNatClampNeg) x, (0, u.2.1, g), rfl, ⟨rfl, by rw [if_pos ⟨c_2, c_4⟩]; exact ⟨by rw [hix, nI_clamp hx31], rfl⟩⟩, by rw [ht9]; exact hP, va_K.moved hW9.alike hK, hD⟩, hS.F ht9⟩) hS.2.2 dX1_print_223 hlocks
      · refine lv_aload_n hx hb dX1_print_47 rfl (lv_at hl 2 rfl) ?_
        refine va_get (ci := 1) (v := .ref m2) (C := RX1) (T := TX1) (N := 3) hx hb hts (fun w h => hs _ (inX1g w h)) hown hK hP 0 rfl rfl 2 (by decide) (hts _ (hs _ fl_X1_13)) (fun _ h9 => h9) rfl dX1_print_48 ?_
        refine lv_iload_n hx hb dX1_print_51 rfl (lv_at hl 1 rfl) ?_
        refine lv_iinc (lv' := [(3, .int ((0 : Int32) + 1)), (4, .long (jX1_size (u.2.1 a.toNatClampNeg))), (0, .ref m0), (1, .int a), (2, .int i)]) hx hb dX1_print_52 hl (k := 1) rfl rfl (by decide) rfl (fun ls hl => ?_)
        refine lv_bipush (v := 45) hx hb dX1_print_55 (by decide) ?_
        refine va_iast hx hb hK hP hD hS 2 1 rfl rfl (vp_in_nI (n := 0) (by decide) (by decide)) dX1_print_57 (fun H locs hP hD hS => ?_)
        have hP : va_P D vwCl (wM m0 m1 m2 cJ cI ((0 : Int32), u.2.1, (upd u.2.2 (0 : Int32).toNatClampNeg (45 : Int32)))) H := hP
        have hD : va_D A (wM m0 m1 m2 cJ cI ((0 : Int32), u.2.1, (upd u.2.2 (0 : Int32).toNatClampNeg (45 : Int32)))) := hD
        have hv := hbd c_2
        have hle := usz_le hv
        obtain ⟨w1, w2, w3, w4⟩ := kwd_spec (W := usz (u.2.1 a.toNatClampNeg) / 10000) (by omega)
        obtain ⟨x, hx31, hix⟩ := nI_of (Int32.not_lt.mpr c_4)
        have hT := fun q => ktext_at (v := (u.2.1 a.toNatClampNeg)) (n0 := 1) (Or.inl ⟨Int64.not_le.mp c_6, rfl⟩) q
        have hl9 := lv_sub hl [0, 1, 2, 3, 4] rfl
        rw [size_lN hv] at hl9
        refine ktail (T := ktext (u.2.1 a.toNatClampNeg)) (n0 := 1) S hK (by omega) w1 w2 w3 w4 (by omega) (fun d hd => by rw [hT, kbyte_1 hd]) (fun hF => by rw [hT, kbyte_2 hF]) (fun hF j hj hz => by rw [Nat.add_assoc 1, Nat.add_assoc 1, hT, kbyte_3 hF hj hz]) (fun hF q hq => by rw [show q = 1 + (q - 1) from by omega, hT, kbyte_4 hF (by omega)]) (fun hF j hj hz q hq => by rw [show q = 1 + (q - 1) from by omega, hT, kbyte_5 hF hj hz (by omega)]) hix hx31 (fun g H locs ls hP hD hS => ?_) _ H locs ls (fun q hq => ?_) hP hD hS hl9
        · exact W.iret (v := ktext (u.2.1 a.toNatClampNeg) x) hx hb hr (fun t9 ht9 hW9 => ⟨⟨ktext (u.2.1 a.toNatClampNeg) x, (0, u.2.1, g), rfl, ⟨rfl, by rw [if_pos ⟨c_2, c_4⟩]; exact ⟨by rw [hix, nI_clamp hx31], rfl⟩⟩, by rw [ht9]; exact hP, va_K.moved hW9.alike hK, hD⟩, hS.F ht9⟩) hS.2.2 dX1_print_223 hlocks
        · have hq0 : q = 0 := by omega
          subst hq0
          rw [ktext, if_pos (Int64.not_le.mp c_6), if_pos rfl]
          rfl
    · refine lv_aload_n hx hb dX1_print_17 rfl (lv_at hl 0 rfl) ?_
      refine lv_iconst (v := 1) hx hb dX1_print_18 (by decide) ?_
      refine g_callMi S hs (tX1_fail l t D m0 m1 m2 cJ cI ((0 : Int32), u.2.1, u.2.2) (1 : Int32)) rfl ml_X1_29 im_yX1_fail se_yX1_fail cd_yX1_fail hd_yX1_fail ⟨by decide, by decide⟩ hE hS hA hP hK hD hl.1 rfl (Nat.le_of_ble_eq_true rfl) ⟨by decide, by decide⟩ dX1_print_19 (fun r_7 u_7 H locs hr_7 hP hD hS => ?_)
      obtain ⟨rfl, rfl⟩ := hr_7
      exact W.iret (v := (kfail ((0 : Int32), u.2.1, u.2.2) (1 : Int32)).1) hx hb hr (fun t9 ht9 hW9 => ⟨⟨(kfail ((0 : Int32), u.2.1, u.2.2) (1 : Int32)).1, (kfail ((0 : Int32), u.2.1, u.2.2) (1 : Int32)).2, rfl, ⟨rfl, by rw [if_neg (fun q => c_4 q.2)]; rfl⟩, by rw [ht9]; exact hP, va_K.moved hW9.alike hK, hD⟩, hS.F ht9⟩) hS.2.2 dX1_print_22 hlocks
end
section
/-! ===== the law's own seven: they call the class and catch ===== -/
theorem jbind_out {α : Type} {x : String ⊕ Int64} {f : Int64 → String ⊕ α} {E : String} (h : jbind x f = .inl E) : x = .inl E ∨ ∃ r, x = .inr r ∧ f r = .inl E := by
  cases x with
  | inl E' => exact Or.inl (by rw [jbind_inl] at h; rw [Sum.inl.inj h])
  | inr r => exact Or.inr ⟨r, rfl, h⟩
theorem jset_out {f : Nat → Int64} {r : Int32} {n : Int64} {E : String} (h : jset f r n = .inl E) : E = gIAE := by
  unfold jset at h
  split at h
  · exact (Sum.inl.inj h).symm
  · split at h
    · exact (Sum.inl.inj h).symm
    · cases h
theorem jget_out {f : Nat → Int64} {r : Int32} {E : String} (h : jget f r = .inl E) : E = gIAE := by
  unfold jget at h
  split at h
  · exact (Sum.inl.inj h).symm
  · cases h
theorem jprint_out {f : Nat → Int64} {a i : Int32} {E : String} (h : jprint f a i = .inl E) : E = gIAE := by
  unfold jprint at h
  split at h
  · exact (Sum.inl.inj h).symm
  · split at h
    · split at h
      · split at h <;> cases h
      · cases h
    · exact (Sum.inl.inj h).symm
theorem jlimited_out {v : Int64} {E : String} (h : jlimited v = .inl E) : E = gAE := by
  unfold jlimited at h
  split at h
  · exact (Sum.inl.inj h).symm
  · cases h
theorem jprodS_out {x y : Int64} {E : String} (h : jprodS x y = .inl E) : E = gAE := by
  unfold jprodS at h
  split at h
  · cases h
  · split at h
    · cases h
    · exact (Sum.inl.inj h).symm
theorem jprod_out {x y : Int64} {E : String} (h : jprod x y = .inl E) : E = gAE := by
  unfold jprod at h
  rcases jbind_out h with q | ⟨r, -, q⟩
  · exact jprodS_out q
  · split at q
    · split at q <;> cases q
    · split at q <;> cases q
theorem jreckoned_out {op : Int32} {x y : Int64} {E : String} (h : jreckoned op x y = .inl E) : E = gUOE ∨ E = gAE := by
  have key : ∀ {z : Int64}, (jbind (jprod x z) fun r => (.inr r : String ⊕ Int64)) = .inl E → E = gAE := by
    intro z q
    rcases jbind_out q with q | ⟨r, -, q⟩
    · exact jprod_out q
    · cases q
  unfold jreckoned at h
  split at h
  · split at h
    · exact Or.inl (Sum.inl.inj h).symm
    · split at h
      · exact Or.inl (Sum.inl.inj h).symm
      · split at h
        · cases h
        · split at h
          · cases h
          · split at h
            · exact Or.inr (key h)
            · cases h
  · split at h
    · cases h
    · split at h
      · cases h
      · split at h
        · exact Or.inr (key h)
        · split at h <;> cases h
theorem jreckon_out {f : Nat → Int64} {r op a b : Int32} {E : String} (h : jreckon f r op a b = .inl E) : E = gIAE ∨ E = gUOE ∨ E = gAE := by
  unfold jreckon at h
  split at h
  · exact Or.inl (Sum.inl.inj h).symm
  · split at h
    · exact Or.inl (Sum.inl.inj h).symm
    · split at h
      · exact Or.inl (Sum.inl.inj h).symm
      · split at h
        · exact Or.inl (Sum.inl.inj h).symm
        · split at h
          · rcases jbind_out h with q | ⟨v, -, q⟩
            · exact Or.inr (jreckoned_out q)
            · rcases jbind_out q with q | ⟨v, -, q⟩
              · exact Or.inr (Or.inr (jlimited_out q))
              · cases q
          · exact Or.inl (Sum.inl.inj h).symm
theorem jturn_out {f : Nat → Int64} {r op a : Int32} {E : String} (h : jturn f r op a = .inl E) : E = gIAE ∨ E = gAE := by
  unfold jturn at h
  split at h
  · exact Or.inl (Sum.inl.inj h).symm
  · split at h
    · exact Or.inl (Sum.inl.inj h).symm
    · split at h
      · exact Or.inl (Sum.inl.inj h).symm
      · split at h
        · rcases jbind_out h with q | ⟨v, -, q⟩
          · exact Or.inr (jlimited_out q)
          · cases q
        · exact Or.inl (Sum.inl.inj h).symm
theorem jround_out {f : Nat → Int64} {r a d : Int32} {E : String} (h : jround f r a d = .inl E) : E = gIAE ∨ E = gAE := by
  unfold jround at h
  split at h
  · exact Or.inl (Sum.inl.inj h).symm
  · split at h
    · exact Or.inl (Sum.inl.inj h).symm
    · split at h
      · exact Or.inl (Sum.inl.inj h).symm
      · split at h
        · rcases jbind_out h with q | ⟨v, -, q⟩
          · exact Or.inr (jlimited_out q)
          · cases q
        · exact Or.inl (Sum.inl.inj h).symm
theorem javgF_out {f : Nat → Int64} {n : Nat} {E : String} : ∀ i k v, javgF f n i k v = .inl E → E = gAE
  | 0, _, _, h => by cases h
  | i + 1, k, v, h => by
    rw [javgF] at h
    split at h
    · rcases jbind_out h with q | ⟨v, -, q⟩
      · exact jlimited_out q
      · exact javgF_out i (k + 1) v q
    · cases h
theorem javerage_out {f : Nat → Int64} {n : Int32} {E : String} (h : javerage f n = .inl E) : E = gIAE ∨ E = gAE := by
  unfold javerage at h
  split at h
  · exact Or.inl (Sum.inl.inj h).symm
  · split at h
    · rcases jbind_out h with q | ⟨v, -, q⟩
      · exact Or.inr (javgF_out _ _ _ q)
      · cases q
    · exact Or.inl (Sum.inl.inj h).symm
/-- the desk and the law's row of one long -/
abbrev wL (h0 h1 o0 : Nat) (cJ cO : ClassId) (f g : Nat → Int64) : va_W := [(h0, .inr (0, [.ref h1])), (h1, .inl (cJ, 8, .inr (.inl f))), (o0, .inl (cO, 1, .inr (.inl g)))]
abbrev gLPre (t : Nat) (D : va_G) (h0 h1 o0 : Nat) (cJ cO : ClassId) (f g : Nat → Int64) (sz : Nat) (As : List Value) : Array Value → State → Prop :=
  va_Pc As (fun U => U.heap.size = sz ∧ gE t (va_A (wL h0 h1 o0 cJ cO f g) sz) U U.heap ∧ va_P D vwCl (wL h0 h1 o0 cJ cO f g) U.heap ∧ va_K D vwCl [(cJ, .long), (cO, .long)] U ∧ va_D (fun _ => True) (wL h0 h1 o0 cJ cO f g))
theorem gLPre_blind (t : Nat) (D : va_G) (h0 h1 o0 : Nat) (cJ cO : ClassId) (f g : Nat → Int64) (sz : Nat) (As : List Value) : FrameBlind (gLPre t D h0 h1 o0 cJ cO f g sz As) := fun a U g' mk q =>
  ⟨q.1, q.2.1, (show gE t (va_A (wL h0 h1 o0 cJ cO f g) sz) _ U.heap from gE.same (u := U) rfl q.2.2.1), q.2.2.2.1, va_K.moved (u := U) (U := U.calling g' mk a) (Vm.Alike.refl U.vm) q.2.2.2.2.1, q.2.2.2.2.2⟩
/-- what a call of the class comes to: a code and the registers; with code 0 the answer lies in the row -/
def gRes (res : String ⊕ (Int64 × (Nat → Int64))) (code : String → Int32) (f : Nat → Int64) (k : Int32) (q : (Nat → Int64) × (Nat → Int64)) : Prop :=
  (∃ (v : Int64) (f1 : Nat → Int64), res = .inr (v, f1) ∧ k = 0 ∧ q.1 = f1 ∧ q.2 0 = v) ∨ (∃ E : String, res = .inl E ∧ k = code E ∧ q.1 = f)
def gL (l : Launch) (y : MethodName) (b : ByteArray) (n : Nat) (hh : List (Nat × Nat × Nat × Nat)) (rm : Room) (t : Nat) (D : va_G) (h0 h1 o0 : Nat) (cJ cO : ClassId) (f g : Nat → Int64) (As : List Value) (res : String ⊕ (Int64 × (Nat → Int64))) (code : String → Int32) : Prop :=
  ∀ sz, Met l y (Cond.codeWith y b n (some .int) hh :: gws) rm (gLPre t D h0 h1 o0 cJ cO f g sz As) (va_Qi (gRes res code f) (fun q t' => va_P D vwCl (wL h0 h1 o0 cJ cO q.1 q.2) t'.heap ∧ va_K D vwCl [(cJ, .long), (cO, .long)] t' ∧ va_D (va_A (wL h0 h1 o0 cJ cO f g) sz) (wL h0 h1 o0 cJ cO q.1 q.2)) (va_A (wL h0 h1 o0 cJ cO f g) sz)) rm.cells rm.slots (va_A (wL h0 h1 o0 cJ cO f g) sz)
section GX
variable {p : Program} {l : Launch} {e : Env} {R : Room} {s : State} {m : MethodId} {args : Array Value} {below : List Frame} {meth : Method} {c : Code} {H : Heap} {locs : List Loc} {cells slots : Nat} {Q : State → Prop}
variable {cc : ByteArray} {pc : Nat} {ls : Array Slot} {rest st0 : List Value} {A0 : Nat → Prop} {Ts : List Cond} {own : String} {nL : Nat}
variable {y : MethodName} {b : ByteArray} {n index t : Nat} {rm : Room} {As : List Value} {D : va_G} {h0 h1 o0 : Nat} {cJ cO : ClassId} {f g : Nat → Int64}
theorem g_callXl {post : Int64 → (Nat → Int64) → Prop} {xp : String → Prop} (S : CallFix p m c cc nL s args Ts own) (hs : ∀ w ∈ gws, w ∈ Ts) (hM : gXl l y b n rm t D h0 h1 cJ f As post xp) (hyc : y.cls = RX0)
    (k1 : Cond.methodLink own index y ∈ gws) (k2 : Cond.instanceMethod y ∈ gws) (k3 : Cond.selects RX0 y y ∈ gws) (k4 : Cond.code y b n (some .long) ∈ gws)
    (hd : y.cls ≠ "java/lang/invoke/MethodHandle" ∧ y.cls ≠ "java/lang/invoke/VarHandle" ∧ (parseMethodDescriptor y.desc).map (fun d => d.parameters.length) = some As.length)
    (hR : rm.frames + 1 ≤ R.frames ∧ 8 + (n + 11) + rm.locals ≤ R.locals) (hE : gE t A0 s s.heap) (hS : va_S A0 s.heap H locs) (hA : ∀ q, s.heap.size ≤ q → A0 q) (hP : va_P D vwCl (wL h0 h1 o0 cJ cO f g) H) (hK : va_K D vwCl [(cJ, .long), (cO, .long)] s) (hD : va_D A0 (wL h0 h1 o0 cJ cO f g)) (hsize : ls.size = nL)
    (hstack : st0 = As.reverse ++ .ref h0 :: rest) (hW : (rest.map fun v => v.category).sum ≤ 8) (hf : cells + rm.cells ≤ R.cells ∧ slots + rm.slots ≤ R.slots) (hdg : decode cc pc = .ok (.invokevirtual index, 3))
    (kx : ∀ (E : String) (ce : Cell) (q9 : Addr) (H1 : Heap) (locs1 : List Loc), xp E → va_P D vwCl (wL h0 h1 o0 cJ cO f g) H1 → va_S A0 s.heap H1 locs1 → H1[q9]? = some ce → ce.vm = .none → s.vm.findClass E = some ce.cls → vx_W p l e R s m args below meth c H1 locs1 (cells + rm.cells) (slots + rm.slots) Q (F0 m pc ls rest) q9)
    (kk : ∀ (r : Int64) (f' : Nat → Int64) (H1 : Heap) (locs1 : List Loc), post r f' → va_P D vwCl (wL h0 h1 o0 cJ cO f' g) H1 → va_D A0 (wL h0 h1 o0 cJ cO f' g) → va_S A0 s.heap H1 locs1 → W p l e R s m args below meth c H1 locs1 (cells + rm.cells) (slots + rm.slots) Q (F0 m (pc + 3) ls (.long r :: rest))) :
    W p l e R s m args below meth c H locs cells slots Q (F0 m pc ls st0) := by
  have hPc := hP.sub (ws' := wX h0 h1 cJ f) [0, 1] rfl
  have hDc := hD.sub (ws' := wX h0 h1 cJ f) [0, 1] (by decide) rfl
  have hKc := hK.sub (tys' := [(cJ, .long)]) [0] rfl
  have hFc := va_free (wc := wX h0 h1 cJ f) hD hS hA [0, 1] rfl
  have hpre : PreV s H RX0 h0 (gXPre t D h0 h1 cJ f H.size As) As := ⟨gXPre_blind t D h0 h1 cJ f H.size As, va_recv hKc hPc (ci := 0) (q0 := 0) rfl rfl, fun U hU hW => ⟨rfl, by rw [hU], by rw [hU]; exact ((hE.kept hS.2.1).narrow hFc).warm hW, by rw [hU]; exact hPc, va_K.moved hW.alike hKc, hDc.weaken (fun _ _ _ _ => trivial)⟩⟩
  refine vx_calll (vx_runV (As := As) (rest := rest) (g := F0 m pc ls st0) S (hM H.size) (cwV As.length S.2.2.2.2 (gw_V hs k1 k2 k3 in_X0 k4) rfl rfl rfl ⟨hyc, hd⟩ hR) hpre rfl rfl hsize hstack (lv_room hW) hdg hf) hS (fun q _ h => hFc q h) hFc (fun q _ h => g_free hS hA q h)
    (fun E ce q9 _ t' H1 locs1 ht hal _ hx hz hk hS1 hce hcv hcl => kx E ce q9 H1 locs1 hx (g_keep hP (fun q hq => hk q hq (g_lt hq))) hS1 hce hcv hcl)
    (fun r f' t' H1 locs1 ht hvm hp hB hz hk hS1 => ?_)
  obtain ⟨hP1, hK1, hD1⟩ := hB
  rw [ht] at hP1
  obtain ⟨hP2, hD2⟩ := va_join (wr := [(o0, .inl (cO, 1, .inr (.inl g)))]) (w1 := wX h0 h1 cJ f') hP hD [0, 1] [2] rfl rfl (by decide) (by decide) hk hFc hP1 hD1
  exact kk r f' H1 locs1 hp (hP2.sub [1, 2, 0] rfl) (hD2.sub [1, 2, 0] (by decide) rfl) hS1
theorem g_callXi {post : Int32 → (Nat → Int64) → Prop} {xp : String → Prop} (S : CallFix p m c cc nL s args Ts own) (hs : ∀ w ∈ gws, w ∈ Ts) (hM : gXi l y b n rm t D h0 h1 cJ f As post xp) (hyc : y.cls = RX0)
    (k1 : Cond.methodLink own index y ∈ gws) (k2 : Cond.instanceMethod y ∈ gws) (k3 : Cond.selects RX0 y y ∈ gws) (k4 : Cond.code y b n (some .int) ∈ gws)
    (hd : y.cls ≠ "java/lang/invoke/MethodHandle" ∧ y.cls ≠ "java/lang/invoke/VarHandle" ∧ (parseMethodDescriptor y.desc).map (fun d => d.parameters.length) = some As.length)
    (hR : rm.frames + 1 ≤ R.frames ∧ 8 + (n + 11) + rm.locals ≤ R.locals) (hE : gE t A0 s s.heap) (hS : va_S A0 s.heap H locs) (hA : ∀ q, s.heap.size ≤ q → A0 q) (hP : va_P D vwCl (wL h0 h1 o0 cJ cO f g) H) (hK : va_K D vwCl [(cJ, .long), (cO, .long)] s) (hD : va_D A0 (wL h0 h1 o0 cJ cO f g)) (hsize : ls.size = nL)
    (hstack : st0 = As.reverse ++ .ref h0 :: rest) (hW : (rest.map fun v => v.category).sum ≤ 8) (hf : cells + rm.cells ≤ R.cells ∧ slots + rm.slots ≤ R.slots) (hdg : decode cc pc = .ok (.invokevirtual index, 3))
    (kx : ∀ (E : String) (ce : Cell) (q9 : Addr) (H1 : Heap) (locs1 : List Loc), xp E → va_P D vwCl (wL h0 h1 o0 cJ cO f g) H1 → va_S A0 s.heap H1 locs1 → H1[q9]? = some ce → ce.vm = .none → s.vm.findClass E = some ce.cls → vx_W p l e R s m args below meth c H1 locs1 (cells + rm.cells) (slots + rm.slots) Q (F0 m pc ls rest) q9)
    (kk : ∀ (r : Int32) (f' : Nat → Int64) (H1 : Heap) (locs1 : List Loc), post r f' → va_P D vwCl (wL h0 h1 o0 cJ cO f' g) H1 → va_D A0 (wL h0 h1 o0 cJ cO f' g) → va_S A0 s.heap H1 locs1 → W p l e R s m args below meth c H1 locs1 (cells + rm.cells) (slots + rm.slots) Q (F0 m (pc + 3) ls (.int r :: rest))) :
    W p l e R s m args below meth c H locs cells slots Q (F0 m pc ls st0) := by
  have hPc := hP.sub (ws' := wX h0 h1 cJ f) [0, 1] rfl
  have hDc := hD.sub (ws' := wX h0 h1 cJ f) [0, 1] (by decide) rfl
  have hKc := hK.sub (tys' := [(cJ, .long)]) [0] rfl
  have hFc := va_free (wc := wX h0 h1 cJ f) hD hS hA [0, 1] rfl
  have hpre : PreV s H RX0 h0 (gXPre t D h0 h1 cJ f H.size As) As := ⟨gXPre_blind t D h0 h1 cJ f H.size As, va_recv hKc hPc (ci := 0) (q0 := 0) rfl rfl, fun U hU hW => ⟨rfl, by rw [hU], by rw [hU]; exact ((hE.kept hS.2.1).narrow hFc).warm hW, by rw [hU]; exact hPc, va_K.moved hW.alike hKc, hDc.weaken (fun _ _ _ _ => trivial)⟩⟩
  refine vx_calli (vx_runV (As := As) (rest := rest) (g := F0 m pc ls st0) S (hM H.size) (cwV As.length S.2.2.2.2 (gw_V hs k1 k2 k3 in_X0 k4) rfl rfl rfl ⟨hyc, hd⟩ hR) hpre rfl rfl hsize hstack (lv_room hW) hdg hf) hS (fun q _ h => hFc q h) hFc (fun q _ h => g_free hS hA q h)
    (fun E ce q9 _ t' H1 locs1 ht hal _ hx hz hk hS1 hce hcv hcl => kx E ce q9 H1 locs1 hx (g_keep hP (fun q hq => hk q hq (g_lt hq))) hS1 hce hcv hcl)
    (fun r f' t' H1 locs1 ht hvm hp hB hz hk hS1 => ?_)
  obtain ⟨hP1, hK1, hD1⟩ := hB
  rw [ht] at hP1
  obtain ⟨hP2, hD2⟩ := va_join (wr := [(o0, .inl (cO, 1, .inr (.inl g)))]) (w1 := wX h0 h1 cJ f') hP hD [0, 1] [2] rfl rfl (by decide) (by decide) hk hFc hP1 hD1
  exact kk r f' H1 locs1 hp (hP2.sub [1, 2, 0] rfl) (hD2.sub [1, 2, 0] (by decide) rfl) hS1
end GX
theorem upd0 (g : Nat → Int64) (v : Int64) : vp_updL g (0 : Int32).toNatClampNeg v 0 = v := by rw [sb_cl0]; exact pk_uLs
def cod1 (_ : String) : Int32 := 1
def cod2 (E : String) : Int32 := if E = gIAE then 1 else 2
def cod3 (E : String) : Int32 := if E = gIAE then 1 else if E = gUOE then 2 else 3
/-- print's answer as a long -/
def jprintL (f : Nat → Int64) (a i : Int32) : String ⊕ (Int64 × (Nat → Int64)) := match jprint f a i with
  | .inl E => .inl E
  | .inr q => .inr (q.1.toInt64, q.2)
set_option maxHeartbeats 4000000 in
set_option maxRecDepth 100000 in
theorem tL_set (l : Launch) (hnt : l.stackTraces = false) (t : Nat) (D : va_G) (h0 h1 o0 : Nat) (cJ cO : ClassId) (f g : Nat → Int64) (r : Int32) (n : Int64) : gL l yL_set cL_set 6 [(0, 10, 13, 13)] { frames := 8, cells := 1, slots := 6, locals := 150 } t D h0 h1 o0 cJ cO f g [.ref h0, .int r, .long n, .ref o0] (jset f r n) cod1 := by
  intro sz
  refine va_MetW (cc := cL_set) (maxL := 6) (ret := some .int) (by decide) rfl ?_
  intro p e s m args below meth c s₁ B hml hv
  obtain ⟨rfl, hsz, hE, hP, hK, hD0⟩ := hv
  subst hsz
  have hx := B.exec
  have hb := B.bytes
  have hr := B.returns
  have hlocks := B.notSynchronized
  have hts := atoms_spec (ws := Cond.codeWith yL_set cL_set 6 (some .int) [(0, 10, 13, 13)] :: gws) B.pre
  have hs : ∀ w ∈ gws, w ∈ Cond.codeWith yL_set cL_set 6 (some .int) [(0, 10, 13, 13)] :: gws := fun w h => List.mem_cons_of_mem _ h
  have hown : s.vm.findClass RL = some m.cls := findClass_of_methodNamed B.named
  have hT : c.exceptionTable.toList = tableOf [(0, 10, 13, 13)] := vx_table (x := yL_set) B (hts _ List.mem_cons_self)
  have hD := hD0.self (sz := s.heap.size)
  generalize hAe : va_A (wL h0 h1 o0 cJ cO f g) s.heap.size = A at hD hE ⊢
  have hA : ∀ q : Nat, s.heap.size ≤ q → A q := fun q h => by rw [← hAe]; exact Or.inr h
  have hS : va_S A s.heap s.heap [] := va_S.rf
  rw [lg_entry_eq]
  have hl := lv_entry ([.ref h0, .int r, .long n, .ref o0] : List Value) (n := 6) (Nat.le_of_ble_eq_true rfl)
  generalize (lg_sl ([.ref h0, .int r, .long n, .ref o0] : List Value) ++ List.replicate (6 - (lg_sl ([.ref h0, .int r, .long n, .ref o0] : List Value)).length) Slot.unset).toArray = ls at hl ⊢
  have hl : lv_has ls 6 [(0, .ref h0), (1, .int r), (2, .long n), (4, .ref o0)] := hl
  have S : CallFix p m c cL_set 6 s ([.ref h0, .int r, .long n, .ref o0] : List Value).toArray (Cond.codeWith yL_set cL_set 6 (some .int) [(0, 10, 13, 13)] :: gws) RL := ⟨hx, hb, hml, hown, hts⟩
  refine lv_aload hx hb dL_set_0 (lv_at hl 3 rfl) ?_
  refine lv_iconst (v := 0) hx hb dL_set_2 (by decide) ?_
  refine lv_aload_n hx hb dL_set_3 rfl (lv_at hl 0 rfl) ?_
  refine lv_iload_n hx hb dL_set_4 rfl (lv_at hl 1 rfl) ?_
  refine lv_lload_n hx hb dL_set_5 rfl (lv_at hl 2 rfl) ?_
  refine g_callXl S hs (tX0_set l hnt t D h0 h1 cJ f r n) rfl ml_L_7 im_yX0_set se_yX0_set cd_yX0_set hd_yX0_set ⟨by decide, by decide⟩ hE hS hA hP hK hD hl.1 rfl (Nat.le_of_ble_eq_true rfl) ⟨by decide, by decide⟩ dL_set_6 (fun E9 ce q9 H locs hx9 hP hS hce hcv hcl => ?_) (fun r9 f9 H locs hr9 hP hD hS => ?_)
  · have hE9 := jset_out hx9
    subst hE9
    refine vx_catch (name := gIAE) hown [] ⟨0, 10, 13, 13⟩ [] hT (fun z hz => nomatch hz) (by decide) (by decide) (hts _ (hs _ cl_L_13)) (va_Nw.use rfl (hE.1 (.castable gIAE gIAE) (by decide +kernel))) hce hcv hcl ?_
    refine lv_astore (lv' := [(5, .ref q9), (0, .ref h0), (1, .int r), (2, .long n), (4, .ref o0)]) hx hb dL_set_13 hl (by decide) rfl (fun ls hl => ?_)
    refine lv_iconst (v := 1) hx hb dL_set_15 (by decide) ?_
    exact W.iret (v := 1) hx hb hr (fun t9 ht9 hW9 => ⟨⟨1, (f, g), rfl, Or.inr ⟨_, hx9, by decide +kernel, rfl⟩, by rw [ht9]; exact hP, va_K.moved hW9.alike hK, hD⟩, hS.F ht9⟩) hS.2.2 dL_set_16 hlocks
  · refine va_last hx hb hK hP hD hS 2 1 rfl rfl (by unfold vp_in; decide) dL_set_9 (fun H locs hP hD hS => ?_)
    refine lv_goto (tgt := 17) hx hb dL_set_10 (by decide) ?_
    refine lv_iconst (v := 0) hx hb dL_set_17 (by decide) ?_
    exact W.iret (v := 0) hx hb hr (fun t9 ht9 hW9 => ⟨⟨0, (f9, vp_updL g (0 : Int32).toNatClampNeg r9), rfl, Or.inl ⟨r9, f9, hr9, rfl, rfl, upd0 g _⟩, by rw [ht9]; exact hP, va_K.moved hW9.alike hK, hD⟩, hS.F ht9⟩) hS.2.2 dL_set_18 hlocks
set_option maxHeartbeats 4000000 in
set_option maxRecDepth 100000 in
theorem tL_get (l : Launch) (hnt : l.stackTraces = false) (t : Nat) (D : va_G) (h0 h1 o0 : Nat) (cJ cO : ClassId) (f g : Nat → Int64) (r : Int32) : gL l yL_get cL_get 4 [(0, 8, 11, 13)] { frames := 8, cells := 1, slots := 6, locals := 150 } t D h0 h1 o0 cJ cO f g [.ref h0, .int r, .ref o0] (jget f r) cod1 := by
  intro sz
  refine va_MetW (cc := cL_get) (maxL := 4) (ret := some .int) (by decide) rfl ?_
  intro p e s m args below meth c s₁ B hml hv
  obtain ⟨rfl, hsz, hE, hP, hK, hD0⟩ := hv
  subst hsz
  have hx := B.exec
  have hb := B.bytes
  have hr := B.returns
  have hlocks := B.notSynchronized
  have hts := atoms_spec (ws := Cond.codeWith yL_get cL_get 4 (some .int) [(0, 8, 11, 13)] :: gws) B.pre
  have hs : ∀ w ∈ gws, w ∈ Cond.codeWith yL_get cL_get 4 (some .int) [(0, 8, 11, 13)] :: gws := fun w h => List.mem_cons_of_mem _ h
  have hown : s.vm.findClass RL = some m.cls := findClass_of_methodNamed B.named
  have hT : c.exceptionTable.toList = tableOf [(0, 8, 11, 13)] := vx_table (x := yL_get) B (hts _ List.mem_cons_self)
  have hD := hD0.self (sz := s.heap.size)
  generalize hAe : va_A (wL h0 h1 o0 cJ cO f g) s.heap.size = A at hD hE ⊢
  have hA : ∀ q : Nat, s.heap.size ≤ q → A q := fun q h => by rw [← hAe]; exact Or.inr h
  have hS : va_S A s.heap s.heap [] := va_S.rf
  rw [lg_entry_eq]
  have hl := lv_entry ([.ref h0, .int r, .ref o0] : List Value) (n := 4) (Nat.le_of_ble_eq_true rfl)
  generalize (lg_sl ([.ref h0, .int r, .ref o0] : List Value) ++ List.replicate (4 - (lg_sl ([.ref h0, .int r, .ref o0] : List Value)).length) Slot.unset).toArray = ls at hl ⊢
  have hl : lv_has ls 4 [(0, .ref h0), (1, .int r), (2, .ref o0)] := hl
  have S : CallFix p m c cL_get 4 s ([.ref h0, .int r, .ref o0] : List Value).toArray (Cond.codeWith yL_get cL_get 4 (some .int) [(0, 8, 11, 13)] :: gws) RL := ⟨hx, hb, hml, hown, hts⟩
  refine lv_aload_n hx hb dL_get_0 rfl (lv_at hl 2 rfl) ?_
  refine lv_iconst (v := 0) hx hb dL_get_1 (by decide) ?_
  refine lv_aload_n hx hb dL_get_2 rfl (lv_at hl 0 rfl) ?_
  refine lv_iload_n hx hb dL_get_3 rfl (lv_at hl 1 rfl) ?_
  refine g_callXl S hs (tX0_get l hnt t D h0 h1 cJ f r) rfl ml_L_15 im_yX0_get se_yX0_get cd_yX0_get hd_yX0_get ⟨by decide, by decide⟩ hE hS hA hP hK hD hl.1 rfl (Nat.le_of_ble_eq_true rfl) ⟨by decide, by decide⟩ dL_get_4 (fun E9 ce q9 H locs hx9 hP hS hce hcv hcl => ?_) (fun r9 f9 H locs hr9 hP hD hS => ?_)
  · have hE9 := jget_out hx9
    subst hE9
    refine vx_catch (name := gIAE) hown [] ⟨0, 8, 11, 13⟩ [] hT (fun z hz => nomatch hz) (by decide) (by decide) (hts _ (hs _ cl_L_13)) (va_Nw.use rfl (hE.1 (.castable gIAE gIAE) (by decide +kernel))) hce hcv hcl ?_
    refine lv_astore_n (lv' := [(3, .ref q9), (0, .ref h0), (1, .int r), (2, .ref o0)]) hx hb dL_get_11 rfl hl (by decide) rfl (fun ls hl => ?_)
    refine lv_iconst (v := 1) hx hb dL_get_12 (by decide) ?_
    exact W.iret (v := 1) hx hb hr (fun t9 ht9 hW9 => ⟨⟨1, (f, g), rfl, Or.inr ⟨_, hx9, by decide +kernel, rfl⟩, by rw [ht9]; exact hP, va_K.moved hW9.alike hK, hD⟩, hS.F ht9⟩) hS.2.2 dL_get_13 hlocks
  · refine va_last hx hb hK hP hD hS 2 1 rfl rfl (by unfold vp_in; decide) dL_get_7 (fun H locs hP hD hS => ?_)
    refine lv_goto (tgt := 14) hx hb dL_get_8 (by decide) ?_
    refine lv_iconst (v := 0) hx hb dL_get_14 (by decide) ?_
    exact W.iret (v := 0) hx hb hr (fun t9 ht9 hW9 => ⟨⟨0, (f9, vp_updL g (0 : Int32).toNatClampNeg r9), rfl, Or.inl ⟨r9, f9, hr9, rfl, rfl, upd0 g _⟩, by rw [ht9]; exact hP, va_K.moved hW9.alike hK, hD⟩, hS.F ht9⟩) hS.2.2 dL_get_15 hlocks
set_option maxHeartbeats 4000000 in
set_option maxRecDepth 100000 in
theorem tL_reckon (l : Launch) (hnt : l.stackTraces = false) (t : Nat) (D : va_G) (h0 h1 o0 : Nat) (cJ cO : ClassId) (f g : Nat → Int64) (r : Int32) (op : Int32) (a : Int32) (b : Int32) : gL l yL_reckon cL_reckon 7 [(0, 13, 16, 13), (0, 13, 20, 23), (0, 13, 24, 25)] { frames := 10, cells := 1, slots := 6, locals := 210 } t D h0 h1 o0 cJ cO f g [.ref h0, .int r, .int op, .int a, .int b, .ref o0] (jreckon f r op a b) cod3 := by
  intro sz
  refine va_MetW (cc := cL_reckon) (maxL := 7) (ret := some .int) (by decide) rfl ?_
  intro p e s m args below meth c s₁ B hml hv
  obtain ⟨rfl, hsz, hE, hP, hK, hD0⟩ := hv
  subst hsz
  have hx := B.exec
  have hb := B.bytes
  have hr := B.returns
  have hlocks := B.notSynchronized
  have hts := atoms_spec (ws := Cond.codeWith yL_reckon cL_reckon 7 (some .int) [(0, 13, 16, 13), (0, 13, 20, 23), (0, 13, 24, 25)] :: gws) B.pre
  have hs : ∀ w ∈ gws, w ∈ Cond.codeWith yL_reckon cL_reckon 7 (some .int) [(0, 13, 16, 13), (0, 13, 20, 23), (0, 13, 24, 25)] :: gws := fun w h => List.mem_cons_of_mem _ h
  have hown : s.vm.findClass RL = some m.cls := findClass_of_methodNamed B.named
  have hT : c.exceptionTable.toList = tableOf [(0, 13, 16, 13), (0, 13, 20, 23), (0, 13, 24, 25)] := vx_table (x := yL_reckon) B (hts _ List.mem_cons_self)
  have hD := hD0.self (sz := s.heap.size)
  generalize hAe : va_A (wL h0 h1 o0 cJ cO f g) s.heap.size = A at hD hE ⊢
  have hA : ∀ q : Nat, s.heap.size ≤ q → A q := fun q h => by rw [← hAe]; exact Or.inr h
  have hS : va_S A s.heap s.heap [] := va_S.rf
  rw [lg_entry_eq]
  have hl := lv_entry ([.ref h0, .int r, .int op, .int a, .int b, .ref o0] : List Value) (n := 7) (Nat.le_of_ble_eq_true rfl)
  generalize (lg_sl ([.ref h0, .int r, .int op, .int a, .int b, .ref o0] : List Value) ++ List.replicate (7 - (lg_sl ([.ref h0, .int r, .int op, .int a, .int b, .ref o0] : List Value)).length) Slot.unset).toArray = ls at hl ⊢
  have hl : lv_has ls 7 [(0, .ref h0), (1, .int r), (2, .int op), (3, .int a), (4, .int b), (5, .ref o0)] := hl
  have S : CallFix p m c cL_reckon 7 s ([.ref h0, .int r, .int op, .int a, .int b, .ref o0] : List Value).toArray (Cond.codeWith yL_reckon cL_reckon 7 (some .int) [(0, 13, 16, 13), (0, 13, 20, 23), (0, 13, 24, 25)] :: gws) RL := ⟨hx, hb, hml, hown, hts⟩
  refine lv_aload hx hb dL_reckon_0 (lv_at hl 5 rfl) ?_
  refine lv_iconst (v := 0) hx hb dL_reckon_2 (by decide) ?_
  refine lv_aload_n hx hb dL_reckon_3 rfl (lv_at hl 0 rfl) ?_
  refine lv_iload_n hx hb dL_reckon_4 rfl (lv_at hl 1 rfl) ?_
  refine lv_iload_n hx hb dL_reckon_5 rfl (lv_at hl 2 rfl) ?_
  refine lv_iload_n hx hb dL_reckon_6 rfl (lv_at hl 3 rfl) ?_
  refine lv_iload hx hb dL_reckon_7 (lv_at hl 4 rfl) ?_
  refine g_callXl S hs (tX0_reckon l hnt t D h0 h1 cJ f r op a b) rfl ml_L_19 im_yX0_reckon se_yX0_reckon cd_yX0_reckon hd_yX0_reckon ⟨by decide, by decide⟩ hE hS hA hP hK hD hl.1 rfl (Nat.le_of_ble_eq_true rfl) ⟨by decide, by decide⟩ dL_reckon_9 (fun E9 ce q9 H locs hx9 hP hS hce hcv hcl => ?_) (fun r9 f9 H locs hr9 hP hD hS => ?_)
  · have hE9 := jreckon_out hx9
    rcases hE9 with rfl | rfl | rfl
    · refine vx_catch (name := gIAE) hown [] ⟨0, 13, 16, 13⟩ [⟨0, 13, 20, 23⟩, ⟨0, 13, 24, 25⟩] hT (fun z hz => nomatch hz) (by decide) (by decide) (hts _ (hs _ cl_L_13)) (va_Nw.use rfl (hE.1 (.castable gIAE gIAE) (by decide +kernel))) hce hcv hcl ?_
      refine lv_astore (lv' := [(6, .ref q9), (0, .ref h0), (1, .int r), (2, .int op), (3, .int a), (4, .int b), (5, .ref o0)]) hx hb dL_reckon_16 hl (by decide) rfl (fun ls hl => ?_)
      refine lv_iconst (v := 1) hx hb dL_reckon_18 (by decide) ?_
      exact W.iret (v := 1) hx hb hr (fun t9 ht9 hW9 => ⟨⟨1, (f, g), rfl, Or.inr ⟨_, hx9, by decide +kernel, rfl⟩, by rw [ht9]; exact hP, va_K.moved hW9.alike hK, hD⟩, hS.F ht9⟩) hS.2.2 dL_reckon_19 hlocks
    · refine vx_catch (name := gUOE) hown [⟨0, 13, 16, 13⟩] ⟨0, 13, 20, 23⟩ [⟨0, 13, 24, 25⟩] hT (fun z hz => by
          simp only [List.mem_cons, List.not_mem_nil, or_false] at hz
          subst hz
          exact Or.inr ⟨by decide, gIAE, hts _ (hs _ cl_L_13), hE.2.1.1⟩) (by decide) (by decide) (hts _ (hs _ cl_L_23)) (va_Nw.use rfl (hE.1 (.castable gUOE gUOE) (by decide +kernel))) hce hcv hcl ?_
      refine lv_astore (lv' := [(6, .ref q9), (0, .ref h0), (1, .int r), (2, .int op), (3, .int a), (4, .int b), (5, .ref o0)]) hx hb dL_reckon_20 hl (by decide) rfl (fun ls hl => ?_)
      refine lv_iconst (v := 2) hx hb dL_reckon_22 (by decide) ?_
      exact W.iret (v := 2) hx hb hr (fun t9 ht9 hW9 => ⟨⟨2, (f, g), rfl, Or.inr ⟨_, hx9, by decide +kernel, rfl⟩, by rw [ht9]; exact hP, va_K.moved hW9.alike hK, hD⟩, hS.F ht9⟩) hS.2.2 dL_reckon_23 hlocks
    · refine vx_catch (name := gAE) hown [⟨0, 13, 16, 13⟩, ⟨0, 13, 20, 23⟩] ⟨0, 13, 24, 25⟩ [] hT (fun z hz => by
          simp only [List.mem_cons, List.not_mem_nil, or_false] at hz
          rcases hz with rfl | rfl
          · exact Or.inr ⟨by decide, gIAE, hts _ (hs _ cl_L_13), hE.2.1.2.1⟩
          · exact Or.inr ⟨by decide, gUOE, hts _ (hs _ cl_L_23), hE.2.1.2.2⟩) (by decide) (by decide) (hts _ (hs _ cl_L_25)) (va_Nw.use rfl (hE.1 (.castable gAE gAE) (by decide +kernel))) hce hcv hcl ?_
      refine lv_astore (lv' := [(6, .ref q9), (0, .ref h0), (1, .int r), (2, .int op), (3, .int a), (4, .int b), (5, .ref o0)]) hx hb dL_reckon_24 hl (by decide) rfl (fun ls hl => ?_)
      refine lv_iconst (v := 3) hx hb dL_reckon_26 (by decide) ?_
      exact W.iret (v := 3) hx hb hr (fun t9 ht9 hW9 => ⟨⟨3, (f, g), rfl, Or.inr ⟨_, hx9, by decide +kernel, rfl⟩, by rw [ht9]; exact hP, va_K.moved hW9.alike hK, hD⟩, hS.F ht9⟩) hS.2.2 dL_reckon_27 hlocks
  · refine va_last hx hb hK hP hD hS 2 1 rfl rfl (by unfold vp_in; decide) dL_reckon_12 (fun H locs hP hD hS => ?_)
    refine lv_goto (tgt := 28) hx hb dL_reckon_13 (by decide) ?_
    refine lv_iconst (v := 0) hx hb dL_reckon_28 (by decide) ?_
    exact W.iret (v := 0) hx hb hr (fun t9 ht9 hW9 => ⟨⟨0, (f9, vp_updL g (0 : Int32).toNatClampNeg r9), rfl, Or.inl ⟨r9, f9, hr9, rfl, rfl, upd0 g _⟩, by rw [ht9]; exact hP, va_K.moved hW9.alike hK, hD⟩, hS.F ht9⟩) hS.2.2 dL_reckon_29 hlocks
set_option maxHeartbeats 4000000 in
set_option maxRecDepth 100000 in
theorem tL_turn (l : Launch) (hnt : l.stackTraces = false) (t : Nat) (D : va_G) (h0 h1 o0 : Nat) (cJ cO : ClassId) (f g : Nat → Int64) (r : Int32) (op : Int32) (a : Int32) : gL l yL_turn cL_turn 6 [(0, 11, 14, 13), (0, 11, 18, 25)] { frames := 8, cells := 1, slots := 6, locals := 150 } t D h0 h1 o0 cJ cO f g [.ref h0, .int r, .int op, .int a, .ref o0] (jturn f r op a) cod2 := by
  intro sz
  refine va_MetW (cc := cL_turn) (maxL := 6) (ret := some .int) (by decide) rfl ?_
  intro p e s m args below meth c s₁ B hml hv
  obtain ⟨rfl, hsz, hE, hP, hK, hD0⟩ := hv
  subst hsz
  have hx := B.exec
  have hb := B.bytes
  have hr := B.returns
  have hlocks := B.notSynchronized
  have hts := atoms_spec (ws := Cond.codeWith yL_turn cL_turn 6 (some .int) [(0, 11, 14, 13), (0, 11, 18, 25)] :: gws) B.pre
  have hs : ∀ w ∈ gws, w ∈ Cond.codeWith yL_turn cL_turn 6 (some .int) [(0, 11, 14, 13), (0, 11, 18, 25)] :: gws := fun w h => List.mem_cons_of_mem _ h
  have hown : s.vm.findClass RL = some m.cls := findClass_of_methodNamed B.named
  have hT : c.exceptionTable.toList = tableOf [(0, 11, 14, 13), (0, 11, 18, 25)] := vx_table (x := yL_turn) B (hts _ List.mem_cons_self)
  have hD := hD0.self (sz := s.heap.size)
  generalize hAe : va_A (wL h0 h1 o0 cJ cO f g) s.heap.size = A at hD hE ⊢
  have hA : ∀ q : Nat, s.heap.size ≤ q → A q := fun q h => by rw [← hAe]; exact Or.inr h
  have hS : va_S A s.heap s.heap [] := va_S.rf
  rw [lg_entry_eq]
  have hl := lv_entry ([.ref h0, .int r, .int op, .int a, .ref o0] : List Value) (n := 6) (Nat.le_of_ble_eq_true rfl)
  generalize (lg_sl ([.ref h0, .int r, .int op, .int a, .ref o0] : List Value) ++ List.replicate (6 - (lg_sl ([.ref h0, .int r, .int op, .int a, .ref o0] : List Value)).length) Slot.unset).toArray = ls at hl ⊢
  have hl : lv_has ls 6 [(0, .ref h0), (1, .int r), (2, .int op), (3, .int a), (4, .ref o0)] := hl
  have S : CallFix p m c cL_turn 6 s ([.ref h0, .int r, .int op, .int a, .ref o0] : List Value).toArray (Cond.codeWith yL_turn cL_turn 6 (some .int) [(0, 11, 14, 13), (0, 11, 18, 25)] :: gws) RL := ⟨hx, hb, hml, hown, hts⟩
  refine lv_aload hx hb dL_turn_0 (lv_at hl 4 rfl) ?_
  refine lv_iconst (v := 0) hx hb dL_turn_2 (by decide) ?_
  refine lv_aload_n hx hb dL_turn_3 rfl (lv_at hl 0 rfl) ?_
  refine lv_iload_n hx hb dL_turn_4 rfl (lv_at hl 1 rfl) ?_
  refine lv_iload_n hx hb dL_turn_5 rfl (lv_at hl 2 rfl) ?_
  refine lv_iload_n hx hb dL_turn_6 rfl (lv_at hl 3 rfl) ?_
  refine g_callXl S hs (tX0_turn l hnt t D h0 h1 cJ f r op a) rfl ml_L_27 im_yX0_turn se_yX0_turn cd_yX0_turn hd_yX0_turn ⟨by decide, by decide⟩ hE hS hA hP hK hD hl.1 rfl (Nat.le_of_ble_eq_true rfl) ⟨by decide, by decide⟩ dL_turn_7 (fun E9 ce q9 H locs hx9 hP hS hce hcv hcl => ?_) (fun r9 f9 H locs hr9 hP hD hS => ?_)
  · have hE9 := jturn_out hx9
    rcases hE9 with rfl | rfl
    · refine vx_catch (name := gIAE) hown [] ⟨0, 11, 14, 13⟩ [⟨0, 11, 18, 25⟩] hT (fun z hz => nomatch hz) (by decide) (by decide) (hts _ (hs _ cl_L_13)) (va_Nw.use rfl (hE.1 (.castable gIAE gIAE) (by decide +kernel))) hce hcv hcl ?_
      refine lv_astore (lv' := [(5, .ref q9), (0, .ref h0), (1, .int r), (2, .int op), (3, .int a), (4, .ref o0)]) hx hb dL_turn_14 hl (by decide) rfl (fun ls hl => ?_)
      refine lv_iconst (v := 1) hx hb dL_turn_16 (by decide) ?_
      exact W.iret (v := 1) hx hb hr (fun t9 ht9 hW9 => ⟨⟨1, (f, g), rfl, Or.inr ⟨_, hx9, by decide +kernel, rfl⟩, by rw [ht9]; exact hP, va_K.moved hW9.alike hK, hD⟩, hS.F ht9⟩) hS.2.2 dL_turn_17 hlocks
    · refine vx_catch (name := gAE) hown [⟨0, 11, 14, 13⟩] ⟨0, 11, 18, 25⟩ [] hT (fun z hz => by
          simp only [List.mem_cons, List.not_mem_nil, or_false] at hz
          subst hz
          exact Or.inr ⟨by decide, gIAE, hts _ (hs _ cl_L_13), hE.2.1.2.1⟩) (by decide) (by decide) (hts _ (hs _ cl_L_25)) (va_Nw.use rfl (hE.1 (.castable gAE gAE) (by decide +kernel))) hce hcv hcl ?_
      refine lv_astore (lv' := [(5, .ref q9), (0, .ref h0), (1, .int r), (2, .int op), (3, .int a), (4, .ref o0)]) hx hb dL_turn_18 hl (by decide) rfl (fun ls hl => ?_)
      refine lv_iconst (v := 2) hx hb dL_turn_20 (by decide) ?_
      exact W.iret (v := 2) hx hb hr (fun t9 ht9 hW9 => ⟨⟨2, (f, g), rfl, Or.inr ⟨_, hx9, by decide +kernel, rfl⟩, by rw [ht9]; exact hP, va_K.moved hW9.alike hK, hD⟩, hS.F ht9⟩) hS.2.2 dL_turn_21 hlocks
  · refine va_last hx hb hK hP hD hS 2 1 rfl rfl (by unfold vp_in; decide) dL_turn_10 (fun H locs hP hD hS => ?_)
    refine lv_goto (tgt := 22) hx hb dL_turn_11 (by decide) ?_
    refine lv_iconst (v := 0) hx hb dL_turn_22 (by decide) ?_
    exact W.iret (v := 0) hx hb hr (fun t9 ht9 hW9 => ⟨⟨0, (f9, vp_updL g (0 : Int32).toNatClampNeg r9), rfl, Or.inl ⟨r9, f9, hr9, rfl, rfl, upd0 g _⟩, by rw [ht9]; exact hP, va_K.moved hW9.alike hK, hD⟩, hS.F ht9⟩) hS.2.2 dL_turn_23 hlocks
set_option maxHeartbeats 4000000 in
set_option maxRecDepth 100000 in
theorem tL_round (l : Launch) (hnt : l.stackTraces = false) (t : Nat) (D : va_G) (h0 h1 o0 : Nat) (cJ cO : ClassId) (f g : Nat → Int64) (r : Int32) (a : Int32) (d : Int32) : gL l yL_round cL_round 6 [(0, 11, 14, 13), (0, 11, 18, 25)] { frames := 8, cells := 1, slots := 6, locals := 150 } t D h0 h1 o0 cJ cO f g [.ref h0, .int r, .int a, .int d, .ref o0] (jround f r a d) cod2 := by
  intro sz
  refine va_MetW (cc := cL_round) (maxL := 6) (ret := some .int) (by decide) rfl ?_
  intro p e s m args below meth c s₁ B hml hv
  obtain ⟨rfl, hsz, hE, hP, hK, hD0⟩ := hv
  subst hsz
  have hx := B.exec
  have hb := B.bytes
  have hr := B.returns
  have hlocks := B.notSynchronized
  have hts := atoms_spec (ws := Cond.codeWith yL_round cL_round 6 (some .int) [(0, 11, 14, 13), (0, 11, 18, 25)] :: gws) B.pre
  have hs : ∀ w ∈ gws, w ∈ Cond.codeWith yL_round cL_round 6 (some .int) [(0, 11, 14, 13), (0, 11, 18, 25)] :: gws := fun w h => List.mem_cons_of_mem _ h
  have hown : s.vm.findClass RL = some m.cls := findClass_of_methodNamed B.named
  have hT : c.exceptionTable.toList = tableOf [(0, 11, 14, 13), (0, 11, 18, 25)] := vx_table (x := yL_round) B (hts _ List.mem_cons_self)
  have hD := hD0.self (sz := s.heap.size)
  generalize hAe : va_A (wL h0 h1 o0 cJ cO f g) s.heap.size = A at hD hE ⊢
  have hA : ∀ q : Nat, s.heap.size ≤ q → A q := fun q h => by rw [← hAe]; exact Or.inr h
  have hS : va_S A s.heap s.heap [] := va_S.rf
  rw [lg_entry_eq]
  have hl := lv_entry ([.ref h0, .int r, .int a, .int d, .ref o0] : List Value) (n := 6) (Nat.le_of_ble_eq_true rfl)
  generalize (lg_sl ([.ref h0, .int r, .int a, .int d, .ref o0] : List Value) ++ List.replicate (6 - (lg_sl ([.ref h0, .int r, .int a, .int d, .ref o0] : List Value)).length) Slot.unset).toArray = ls at hl ⊢
  have hl : lv_has ls 6 [(0, .ref h0), (1, .int r), (2, .int a), (3, .int d), (4, .ref o0)] := hl
  have S : CallFix p m c cL_round 6 s ([.ref h0, .int r, .int a, .int d, .ref o0] : List Value).toArray (Cond.codeWith yL_round cL_round 6 (some .int) [(0, 11, 14, 13), (0, 11, 18, 25)] :: gws) RL := ⟨hx, hb, hml, hown, hts⟩
  refine lv_aload hx hb dL_round_0 (lv_at hl 4 rfl) ?_
  refine lv_iconst (v := 0) hx hb dL_round_2 (by decide) ?_
  refine lv_aload_n hx hb dL_round_3 rfl (lv_at hl 0 rfl) ?_
  refine lv_iload_n hx hb dL_round_4 rfl (lv_at hl 1 rfl) ?_
  refine lv_iload_n hx hb dL_round_5 rfl (lv_at hl 2 rfl) ?_
  refine lv_iload_n hx hb dL_round_6 rfl (lv_at hl 3 rfl) ?_
  refine g_callXl S hs (tX0_round l hnt t D h0 h1 cJ f r a d) rfl ml_L_31 im_yX0_round se_yX0_round cd_yX0_round hd_yX0_round ⟨by decide, by decide⟩ hE hS hA hP hK hD hl.1 rfl (Nat.le_of_ble_eq_true rfl) ⟨by decide, by decide⟩ dL_round_7 (fun E9 ce q9 H locs hx9 hP hS hce hcv hcl => ?_) (fun r9 f9 H locs hr9 hP hD hS => ?_)
  · have hE9 := jround_out hx9
    rcases hE9 with rfl | rfl
    · refine vx_catch (name := gIAE) hown [] ⟨0, 11, 14, 13⟩ [⟨0, 11, 18, 25⟩] hT (fun z hz => nomatch hz) (by decide) (by decide) (hts _ (hs _ cl_L_13)) (va_Nw.use rfl (hE.1 (.castable gIAE gIAE) (by decide +kernel))) hce hcv hcl ?_
      refine lv_astore (lv' := [(5, .ref q9), (0, .ref h0), (1, .int r), (2, .int a), (3, .int d), (4, .ref o0)]) hx hb dL_round_14 hl (by decide) rfl (fun ls hl => ?_)
      refine lv_iconst (v := 1) hx hb dL_round_16 (by decide) ?_
      exact W.iret (v := 1) hx hb hr (fun t9 ht9 hW9 => ⟨⟨1, (f, g), rfl, Or.inr ⟨_, hx9, by decide +kernel, rfl⟩, by rw [ht9]; exact hP, va_K.moved hW9.alike hK, hD⟩, hS.F ht9⟩) hS.2.2 dL_round_17 hlocks
    · refine vx_catch (name := gAE) hown [⟨0, 11, 14, 13⟩] ⟨0, 11, 18, 25⟩ [] hT (fun z hz => by
          simp only [List.mem_cons, List.not_mem_nil, or_false] at hz
          subst hz
          exact Or.inr ⟨by decide, gIAE, hts _ (hs _ cl_L_13), hE.2.1.2.1⟩) (by decide) (by decide) (hts _ (hs _ cl_L_25)) (va_Nw.use rfl (hE.1 (.castable gAE gAE) (by decide +kernel))) hce hcv hcl ?_
      refine lv_astore (lv' := [(5, .ref q9), (0, .ref h0), (1, .int r), (2, .int a), (3, .int d), (4, .ref o0)]) hx hb dL_round_18 hl (by decide) rfl (fun ls hl => ?_)
      refine lv_iconst (v := 2) hx hb dL_round_20 (by decide) ?_
      exact W.iret (v := 2) hx hb hr (fun t9 ht9 hW9 => ⟨⟨2, (f, g), rfl, Or.inr ⟨_, hx9, by decide +kernel, rfl⟩, by rw [ht9]; exact hP, va_K.moved hW9.alike hK, hD⟩, hS.F ht9⟩) hS.2.2 dL_round_21 hlocks
  · refine va_last hx hb hK hP hD hS 2 1 rfl rfl (by unfold vp_in; decide) dL_round_10 (fun H locs hP hD hS => ?_)
    refine lv_goto (tgt := 22) hx hb dL_round_11 (by decide) ?_
    refine lv_iconst (v := 0) hx hb dL_round_22 (by decide) ?_
    exact W.iret (v := 0) hx hb hr (fun t9 ht9 hW9 => ⟨⟨0, (f9, vp_updL g (0 : Int32).toNatClampNeg r9), rfl, Or.inl ⟨r9, f9, hr9, rfl, rfl, upd0 g _⟩, by rw [ht9]; exact hP, va_K.moved hW9.alike hK, hD⟩, hS.F ht9⟩) hS.2.2 dL_round_23 hlocks
set_option maxHeartbeats 4000000 in
set_option maxRecDepth 100000 in
theorem tL_print (l : Launch) (hnt : l.stackTraces = false) (t : Nat) (D : va_G) (h0 h1 o0 : Nat) (cJ cO : ClassId) (f g : Nat → Int64) (a : Int32) (i : Int32) : gL l yL_print cL_print 5 [(0, 10, 13, 13)] { frames := 8, cells := 1, slots := 6, locals := 150 } t D h0 h1 o0 cJ cO f g [.ref h0, .int a, .int i, .ref o0] (jprintL f a i) cod1 := by
  intro sz
  refine va_MetW (cc := cL_print) (maxL := 5) (ret := some .int) (by decide) rfl ?_
  intro p e s m args below meth c s₁ B hml hv
  obtain ⟨rfl, hsz, hE, hP, hK, hD0⟩ := hv
  subst hsz
  have hx := B.exec
  have hb := B.bytes
  have hr := B.returns
  have hlocks := B.notSynchronized
  have hts := atoms_spec (ws := Cond.codeWith yL_print cL_print 5 (some .int) [(0, 10, 13, 13)] :: gws) B.pre
  have hs : ∀ w ∈ gws, w ∈ Cond.codeWith yL_print cL_print 5 (some .int) [(0, 10, 13, 13)] :: gws := fun w h => List.mem_cons_of_mem _ h
  have hown : s.vm.findClass RL = some m.cls := findClass_of_methodNamed B.named
  have hT : c.exceptionTable.toList = tableOf [(0, 10, 13, 13)] := vx_table (x := yL_print) B (hts _ List.mem_cons_self)
  have hD := hD0.self (sz := s.heap.size)
  generalize hAe : va_A (wL h0 h1 o0 cJ cO f g) s.heap.size = A at hD hE ⊢
  have hA : ∀ q : Nat, s.heap.size ≤ q → A q := fun q h => by rw [← hAe]; exact Or.inr h
  have hS : va_S A s.heap s.heap [] := va_S.rf
  rw [lg_entry_eq]
  have hl := lv_entry ([.ref h0, .int a, .int i, .ref o0] : List Value) (n := 5) (Nat.le_of_ble_eq_true rfl)
  generalize (lg_sl ([.ref h0, .int a, .int i, .ref o0] : List Value) ++ List.replicate (5 - (lg_sl ([.ref h0, .int a, .int i, .ref o0] : List Value)).length) Slot.unset).toArray = ls at hl ⊢
  have hl : lv_has ls 5 [(0, .ref h0), (1, .int a), (2, .int i), (3, .ref o0)] := hl
  have S : CallFix p m c cL_print 5 s ([.ref h0, .int a, .int i, .ref o0] : List Value).toArray (Cond.codeWith yL_print cL_print 5 (some .int) [(0, 10, 13, 13)] :: gws) RL := ⟨hx, hb, hml, hown, hts⟩
  refine lv_aload_n hx hb dL_print_0 rfl (lv_at hl 3 rfl) ?_
  refine lv_iconst (v := 0) hx hb dL_print_1 (by decide) ?_
  refine lv_aload_n hx hb dL_print_2 rfl (lv_at hl 0 rfl) ?_
  refine lv_iload_n hx hb dL_print_3 rfl (lv_at hl 1 rfl) ?_
  refine lv_iload_n hx hb dL_print_4 rfl (lv_at hl 2 rfl) ?_
  refine g_callXi S hs (tX0_print l hnt t D h0 h1 cJ f a i) rfl ml_L_34 im_yX0_print se_yX0_print cd_yX0_print hd_yX0_print ⟨by decide, by decide⟩ hE hS hA hP hK hD hl.1 rfl (Nat.le_of_ble_eq_true rfl) ⟨by decide, by decide⟩ dL_print_5 (fun E9 ce q9 H locs hx9 hP hS hce hcv hcl => ?_) (fun r9 f9 H locs hr9 hP hD hS => ?_)
  · have hE9 := jprint_out hx9
    subst hE9
    refine vx_catch (name := gIAE) hown [] ⟨0, 10, 13, 13⟩ [] hT (fun z hz => nomatch hz) (by decide) (by decide) (hts _ (hs _ cl_L_13)) (va_Nw.use rfl (hE.1 (.castable gIAE gIAE) (by decide +kernel))) hce hcv hcl ?_
    refine lv_astore (lv' := [(4, .ref q9), (0, .ref h0), (1, .int a), (2, .int i), (3, .ref o0)]) hx hb dL_print_13 hl (by decide) rfl (fun ls hl => ?_)
    refine lv_iconst (v := 1) hx hb dL_print_15 (by decide) ?_
    exact W.iret (v := 1) hx hb hr (fun t9 ht9 hW9 => ⟨⟨1, (f, g), rfl, Or.inr ⟨_, (by rw [jprintL, hx9]), by decide +kernel, rfl⟩, by rw [ht9]; exact hP, va_K.moved hW9.alike hK, hD⟩, hS.F ht9⟩) hS.2.2 dL_print_16 hlocks
  · refine lv_i2l hx hb dL_print_8 rfl ?_
    refine va_last hx hb hK hP hD hS 2 1 rfl rfl (by unfold vp_in; decide) dL_print_9 (fun H locs hP hD hS => ?_)
    refine lv_goto (tgt := 17) hx hb dL_print_10 (by decide) ?_
    refine lv_iconst (v := 0) hx hb dL_print_17 (by decide) ?_
    exact W.iret (v := 0) hx hb hr (fun t9 ht9 hW9 => ⟨⟨0, (f9, vp_updL g (0 : Int32).toNatClampNeg r9.toInt64), rfl, Or.inl ⟨r9.toInt64, f9, (by rw [jprintL, hr9]), rfl, rfl, upd0 g _⟩, by rw [ht9]; exact hP, va_K.moved hW9.alike hK, hD⟩, hS.F ht9⟩) hS.2.2 dL_print_18 hlocks
set_option maxHeartbeats 4000000 in
set_option maxRecDepth 100000 in
theorem tL_average (l : Launch) (hnt : l.stackTraces = false) (t : Nat) (D : va_G) (h0 h1 o0 : Nat) (cJ cO : ClassId) (f g : Nat → Int64) (n : Int32) : gL l yL_average cL_average 4 [(0, 8, 11, 13), (0, 8, 14, 25)] { frames := 8, cells := 1, slots := 6, locals := 150 } t D h0 h1 o0 cJ cO f g [.ref h0, .int n, .ref o0] (javerage f n) cod2 := by
  intro sz
  refine va_MetW (cc := cL_average) (maxL := 4) (ret := some .int) (by decide) rfl ?_
  intro p e s m args below meth c s₁ B hml hv
  obtain ⟨rfl, hsz, hE, hP, hK, hD0⟩ := hv
  subst hsz
  have hx := B.exec
  have hb := B.bytes
  have hr := B.returns
  have hlocks := B.notSynchronized
  have hts := atoms_spec (ws := Cond.codeWith yL_average cL_average 4 (some .int) [(0, 8, 11, 13), (0, 8, 14, 25)] :: gws) B.pre
  have hs : ∀ w ∈ gws, w ∈ Cond.codeWith yL_average cL_average 4 (some .int) [(0, 8, 11, 13), (0, 8, 14, 25)] :: gws := fun w h => List.mem_cons_of_mem _ h
  have hown : s.vm.findClass RL = some m.cls := findClass_of_methodNamed B.named
  have hT : c.exceptionTable.toList = tableOf [(0, 8, 11, 13), (0, 8, 14, 25)] := vx_table (x := yL_average) B (hts _ List.mem_cons_self)
  have hD := hD0.self (sz := s.heap.size)
  generalize hAe : va_A (wL h0 h1 o0 cJ cO f g) s.heap.size = A at hD hE ⊢
  have hA : ∀ q : Nat, s.heap.size ≤ q → A q := fun q h => by rw [← hAe]; exact Or.inr h
  have hS : va_S A s.heap s.heap [] := va_S.rf
  rw [lg_entry_eq]
  have hl := lv_entry ([.ref h0, .int n, .ref o0] : List Value) (n := 4) (Nat.le_of_ble_eq_true rfl)
  generalize (lg_sl ([.ref h0, .int n, .ref o0] : List Value) ++ List.replicate (4 - (lg_sl ([.ref h0, .int n, .ref o0] : List Value)).length) Slot.unset).toArray = ls at hl ⊢
  have hl : lv_has ls 4 [(0, .ref h0), (1, .int n), (2, .ref o0)] := hl
  have S : CallFix p m c cL_average 4 s ([.ref h0, .int n, .ref o0] : List Value).toArray (Cond.codeWith yL_average cL_average 4 (some .int) [(0, 8, 11, 13), (0, 8, 14, 25)] :: gws) RL := ⟨hx, hb, hml, hown, hts⟩
  refine lv_aload_n hx hb dL_average_0 rfl (lv_at hl 2 rfl) ?_
  refine lv_iconst (v := 0) hx hb dL_average_1 (by decide) ?_
  refine lv_aload_n hx hb dL_average_2 rfl (lv_at hl 0 rfl) ?_
  refine lv_iload_n hx hb dL_average_3 rfl (lv_at hl 1 rfl) ?_
  refine g_callXl S hs (tX0_average l hnt t D h0 h1 cJ f n) rfl ml_L_38 im_yX0_average se_yX0_average cd_yX0_average hd_yX0_average ⟨by decide, by decide⟩ hE hS hA hP hK hD hl.1 rfl (Nat.le_of_ble_eq_true rfl) ⟨by decide, by decide⟩ dL_average_4 (fun E9 ce q9 H locs hx9 hP hS hce hcv hcl => ?_) (fun r9 f9 H locs hr9 hP hD hS => ?_)
  · have hE9 := javerage_out hx9
    rcases hE9 with rfl | rfl
    · refine vx_catch (name := gIAE) hown [] ⟨0, 8, 11, 13⟩ [⟨0, 8, 14, 25⟩] hT (fun z hz => nomatch hz) (by decide) (by decide) (hts _ (hs _ cl_L_13)) (va_Nw.use rfl (hE.1 (.castable gIAE gIAE) (by decide +kernel))) hce hcv hcl ?_
      refine lv_astore_n (lv' := [(3, .ref q9), (0, .ref h0), (1, .int n), (2, .ref o0)]) hx hb dL_average_11 rfl hl (by decide) rfl (fun ls hl => ?_)
      refine lv_iconst (v := 1) hx hb dL_average_12 (by decide) ?_
      exact W.iret (v := 1) hx hb hr (fun t9 ht9 hW9 => ⟨⟨1, (f, g), rfl, Or.inr ⟨_, hx9, by decide +kernel, rfl⟩, by rw [ht9]; exact hP, va_K.moved hW9.alike hK, hD⟩, hS.F ht9⟩) hS.2.2 dL_average_13 hlocks
    · refine vx_catch (name := gAE) hown [⟨0, 8, 11, 13⟩] ⟨0, 8, 14, 25⟩ [] hT (fun z hz => by
          simp only [List.mem_cons, List.not_mem_nil, or_false] at hz
          subst hz
          exact Or.inr ⟨by decide, gIAE, hts _ (hs _ cl_L_13), hE.2.1.2.1⟩) (by decide) (by decide) (hts _ (hs _ cl_L_25)) (va_Nw.use rfl (hE.1 (.castable gAE gAE) (by decide +kernel))) hce hcv hcl ?_
      refine lv_astore_n (lv' := [(3, .ref q9), (0, .ref h0), (1, .int n), (2, .ref o0)]) hx hb dL_average_14 rfl hl (by decide) rfl (fun ls hl => ?_)
      refine lv_iconst (v := 2) hx hb dL_average_15 (by decide) ?_
      exact W.iret (v := 2) hx hb hr (fun t9 ht9 hW9 => ⟨⟨2, (f, g), rfl, Or.inr ⟨_, hx9, by decide +kernel, rfl⟩, by rw [ht9]; exact hP, va_K.moved hW9.alike hK, hD⟩, hS.F ht9⟩) hS.2.2 dL_average_16 hlocks
  · refine va_last hx hb hK hP hD hS 2 1 rfl rfl (by unfold vp_in; decide) dL_average_7 (fun H locs hP hD hS => ?_)
    refine lv_goto (tgt := 17) hx hb dL_average_8 (by decide) ?_
    refine lv_iconst (v := 0) hx hb dL_average_17 (by decide) ?_
    exact W.iret (v := 0) hx hb hr (fun t9 ht9 hW9 => ⟨⟨0, (f9, vp_updL g (0 : Int32).toNatClampNeg r9), rfl, Or.inl ⟨r9, f9, hr9, rfl, rfl, upd0 g _⟩, by rw [ht9]; exact hP, va_K.moved hW9.alike hK, hD⟩, hS.F ht9⟩) hS.2.2 dL_average_18 hlocks
end
section
/-! ===== longs as natural numbers with a sign ===== -/
/-- no long but the least one is left out -/
def gNm (v : Int64) : Prop := ¬ v.toInt = -9223372036854775808
theorem gBd_nm {v : Int64} (h : gBd v) : gNm v := by
  obtain ⟨h1, h2⟩ := h
  unfold gNm
  omega
theorem toInt_rng (v : Int64) : -9223372036854775808 ≤ v.toInt ∧ v.toInt < 9223372036854775808 := ⟨Int64.le_toInt v, Int64.toInt_lt v⟩
theorem usz_lt {v : Int64} (h : gNm v) : usz v < 2 ^ 63 := by
  have := toInt_rng v
  unfold gNm at h
  unfold usz
  omega
theorem neg_lN {n : Nat} (h : n < 2 ^ 63) : (-lN n).toInt = -(n : Int) := by
  rw [Int64.toInt_neg, pk_lT h]
  exact Int.bmod_eq_of_le (by omega) (by omega)
theorem le0 (v : Int64) : (0 : Int64) ≤ v ↔ 0 ≤ v.toInt := by rw [Int64.le_iff_toInt_le, Int64.toInt_zero]
theorem lt0 (v : Int64) : (0 : Int64) < v ↔ 0 < v.toInt := by rw [Int64.lt_iff_toInt_lt, Int64.toInt_zero]
theorem v_pos {v : Int64} (h : (0 : Int64) ≤ v) : v = lN (usz v) := by
  rw [le0] at h
  have := toInt_rng v
  apply Int64.toInt_inj.mp
  rw [pk_lT (by unfold usz; omega)]
  unfold usz
  omega
theorem v_neg {v : Int64} (h : ¬ (0 : Int64) ≤ v) (hm : gNm v) : v = -lN (usz v) := by
  rw [le0] at h
  have := toInt_rng v
  apply Int64.toInt_inj.mp
  rw [neg_lN (usz_lt hm)]
  unfold usz
  omega
theorem jabs_eq {v : Int64} (hm : gNm v) : jabs v = lN (usz v) := by
  have := toInt_rng v
  unfold jabs
  split
  next h =>
    rw [lt0] at h
    exact v_pos ((le0 v).mpr (by omega))
  next h =>
    rw [lt0] at h
    by_cases h0 : (0 : Int64) ≤ v
    · rw [le0] at h0
      have hv : v.toInt = 0 := by omega
      have hz : v = 0 := Int64.toInt_inj.mp (by rw [hv, Int64.toInt_zero])
      rw [hz]
      decide
    · rw [v_neg h0 hm]
      have e : usz (-lN (usz v)) = usz v := by
        unfold usz
        rw [neg_lN (by have := usz_lt hm; unfold usz at this; exact this)]
        omega
      rw [e]
      simp
theorem size_eq {v : Int64} (hm : gNm v) : jX1_size v = lN (usz v) := by
  unfold jX1_size
  split
  next h => exact v_pos h
  next h =>
    rw [v_neg h hm]
    have e : usz (-lN (usz v)) = usz v := by
      unfold usz
      rw [neg_lN (by have := usz_lt hm; unfold usz at this; exact this)]
      omega
    rw [e]
    simp
theorem usz_lN {n : Nat} (h : n < 2 ^ 63) : usz (lN n) = n := by
  unfold usz
  rw [pk_lT h]
  omega
theorem usz_0 {v : Int64} (h : ¬ v = 0) : 0 < usz v := by
  unfold usz
  rcases Nat.eq_zero_or_pos v.toInt.natAbs with q | q
  · exact absurd (Int64.toInt_inj.mp (by rw [Int64.toInt_zero]; omega)) h
  · exact q
theorem lN_nm {n : Nat} (h : n < 2 ^ 63) : gNm (lN n) := by
  unfold gNm
  rw [pk_lT h]
  omega
theorem lN_0le {n : Nat} (h : n < 2 ^ 63) : (0 : Int64) ≤ lN n := by rw [le0, pk_lT h]; omega
/-- a natural number with a sign -/
def sgl (p : Prop) [Decidable p] (n : Nat) : Int64 := if p then lN n else -lN n
/-- n by d, halves up -/
def rqN (n d : Nat) : Nat := if n % d < d - n % d then n / d else n / d + 1
theorem rqN_le (n d : Nat) : rqN n d ≤ n + 1 := by
  have := Nat.div_le_self n d
  unfold rqN
  split <;> omega
theorem jrq_eq {a b : Int64} (ha : gNm a) (hb : gNm b) (h0 : ¬ b = 0) : jrq a b = sgl (0 ≤ a ↔ 0 ≤ b) (rqN (usz a) (usz b)) := by
  have h1 := usz_lt ha
  have h2 := usz_lt hb
  have h3 := usz_0 h0
  have h4 : usz a % usz b < usz b := Nat.mod_lt _ h3
  have h5 : usz a / usz b ≤ usz a := Nat.div_le_self _ _
  unfold jrq rqN sgl
  rw [jabs_eq ha, jabs_eq hb, pk_lRem h1 h3 h2, lN_sub (Nat.le_of_lt h4), pk_lDiv h1 h3 h2, lN_1]
  have hc := pk_lLT (a := usz a % usz b) (b := usz b - usz a % usz b) (by omega) (by omega)
  by_cases c1 : usz a % usz b < usz b - usz a % usz b
  · rw [if_pos (hc.mpr c1), if_pos c1]
    by_cases c2 : (0 : Int64) ≤ a <;> by_cases c3 : (0 : Int64) ≤ b <;> simp [c2, c3]
  · rw [if_neg (fun q => c1 (hc.mp q)), if_neg c1]
    by_cases c2 : (0 : Int64) ≤ a <;> by_cases c3 : (0 : Int64) ≤ b <;> simp [c2, c3]
theorem kquot_eq {x y : Nat} (hx : 10000 * x < 2 ^ 63) (h0 : 0 < y) (hy : y < 2 ^ 63) : kquotient (lN x) (lN y) = lN (rqN (10000 * x) y) := by
  have h4 : 10000 * x % y < y := Nat.mod_lt _ h0
  unfold kquotient rqN
  rw [lN_lit10000, lN_mul, pk_lRem hx h0 hy, lN_sub (Nat.le_of_lt h4), pk_lDiv hx h0 hy, lN_1]
  have hc := pk_lLT (a := 10000 * x % y) (b := y - 10000 * x % y) (by omega) (by omega)
  by_cases c1 : 10000 * x % y < y - 10000 * x % y
  · rw [if_pos (hc.mpr c1), if_pos c1]
  · rw [if_neg (fun q => c1 (hc.mp q)), if_neg c1]
theorem rqN_c {n d : Nat} (c : Nat) (hc : 0 < c) (hd : 0 < d) : rqN (c * n) (c * d) = rqN n d := by
  have h4 : n % d < d := Nat.mod_lt _ hd
  unfold rqN
  rw [Nat.mul_mod_mul_left, Nat.mul_div_mul_left _ _ hc, ← Nat.mul_sub]
  by_cases c1 : n % d < d - n % d
  · rw [if_pos c1, if_pos ((Nat.mul_lt_mul_left hc).mpr c1)]
  · rw [if_neg c1, if_neg (fun q => c1 ((Nat.mul_lt_mul_left hc).mp q))]
theorem rqN_100 (n : Nat) : rqN n 100 = (n + 50) / 100 := by
  unfold rqN
  split <;> omega
theorem rqN_10000 (n : Nat) : rqN n 10000 = (n + 5000) / 10000 := by
  unfold rqN
  split <;> omega
/-- the limit -/
theorem isNum_iff (v : Int64) : jX0_isNumber v = 0 ↔ ¬ gBd v := by
  have e1 : (-900000000000000 : Int64).toInt = -900000000000000 := by decide
  have e2 : (900000000000000 : Int64).toInt = 900000000000000 := by decide
  unfold jX0_isNumber gBd
  split
  next h => rw [Int64.lt_iff_toInt_lt, e1] at h; simp; omega
  next h =>
    rw [Int64.lt_iff_toInt_lt, e1] at h
    split
    next h2 => rw [Int64.lt_iff_toInt_lt, e2] at h2; simp; omega
    next h2 => rw [Int64.lt_iff_toInt_lt, e2] at h2; simp; omega
theorem jlim_in {v : Int64} (h : gBd v) : jlimited v = .inr v := by
  unfold jlimited
  rw [if_neg (fun q => (isNum_iff v).mp q h)]
theorem jlim_out {v : Int64} (h : ¬ gBd v) : jlimited v = .inl gAE := by
  unfold jlimited
  rw [if_pos ((isNum_iff v).mpr h)]
/-- all registers are in their limits -/
def gBs (f : Nat → Int64) : Prop := ∀ j, j < 8 → gBd (f j)
theorem gBs_upd {f : Nat → Int64} {k : Nat} {v : Int64} (h : gBs f) (hv : gBd v) : gBs (vp_updL f k v) := by
  intro j hj
  by_cases e : j = k
  · subst e; rw [pk_uLs]; exact hv
  · rw [pk_uLn e]; exact h j hj
theorem in8 {r : Int32} (h : vp_in r 8) : r.toNatClampNeg < 8 := Nat.not_le.mp fun q => h (Or.inr q)
theorem lim900 : (900000000000000 : Int64) = lN 900000000000000 := by decide
theorem gBd_sgl {p : Prop} [Decidable p] {n : Nat} (h : n < 2 ^ 63) : gBd (sgl p n) ↔ n ≤ 900000000000000 := by
  unfold gBd sgl
  split
  · rw [pk_lT h]; omega
  · rw [neg_lN h]; omega
/-- the class's answer and the reference's are one -/
def gAg (res : String ⊕ (Int64 × (Nat → Int64))) (code : String → Int32) (f : Nat → Int64) (z : Int64) (u : mS) : Prop :=
  (∃ (v : Int64) (f1 : Nat → Int64), res = .inr (v, f1) ∧ u.1 = 0 ∧ z = v ∧ u.2.1 = f1 ∧ gBs f1) ∨ (∃ E : String, res = .inl E ∧ u.1 = code E ∧ ¬ code E = 0 ∧ u.2.1 = f)
theorem gAg_put {f : Nat → Int64} {g : Nat → Int32} {r mi cd : Int32} {x : Int64} {n : Nat} {code : String → Int32} (p : Prop) [Decidable p] (hB : gBs f) (hn : n < 2 ^ 63) (hx : x = sgl p n) (hmi : mi = 0 ↔ p) (hc : code gAE = cd) (hc0 : ¬ cd = 0) :
    gAg (jbind (jlimited x) fun v => .inr (v, vp_updL f r.toNatClampNeg v)) code f (kput ((0 : Int32), f, g) r mi (lN n) cd).1 (kput ((0 : Int32), f, g) r mi (lN n) cd).2 := by
  by_cases hlim : n ≤ 900000000000000
  · have hbx : gBd x := by rw [hx]; exact (gBd_sgl hn).mpr hlim
    have hc1 : lN n ≤ (900000000000000 : Int64) := by rw [lim900, pk_lLE hn (by decide)]; exact hlim
    refine Or.inl ⟨x, vp_updL f r.toNatClampNeg x, by rw [jlim_in hbx, jbind_inr], ?_⟩
    unfold kput
    rw [if_pos hc1]
    by_cases hm : mi = 0
    · have e : x = lN n := by rw [hx, sgl, if_pos (hmi.mp hm)]
      rw [if_pos hm]
      exact ⟨rfl, by rw [pk_uLs, e], by rw [e], gBs_upd hB hbx⟩
    · have e : x = -lN n := by rw [hx, sgl, if_neg (fun q => hm (hmi.mpr q))]
      rw [if_neg hm]
      exact ⟨rfl, by rw [pk_uLs, e], by rw [e], gBs_upd hB hbx⟩
  · have hbx : ¬ gBd x := by rw [hx]; exact fun q => hlim ((gBd_sgl hn).mp q)
    have hc1 : ¬ lN n ≤ (900000000000000 : Int64) := by rw [lim900, pk_lLE hn (by decide)]; exact hlim
    refine Or.inr ⟨gAE, by rw [jlim_out hbx, jbind_inl], ?_⟩
    unfold kput kfail
    rw [if_neg hc1]
    exact ⟨hc.symm, by rw [hc]; exact hc0, rfl⟩
theorem gAg_fail {f : Nat → Int64} {g : Nat → Int32} {z : Int64} {cd : Int32} {code : String → Int32} {E : String} (hc : code E = cd) (hc0 : ¬ cd = 0) : gAg (.inl E) code f z (kfail ((0 : Int32), f, g) cd).2 :=
  Or.inr ⟨E, rfl, hc.symm, by rw [hc]; exact hc0, rfl⟩
/-- register numbers: both look alike -/
theorem reg_out (r : Int32) : jX0_isRegister r = 0 ↔ ¬ kout r = 0 := by
  unfold jX0_isRegister kout
  by_cases h1 : r < 0
  · simp [h1]
  · rw [if_neg h1, if_neg h1]
    rcases pk_ix r (n := 8) (by decide) with q | q | ⟨j, hj, rfl⟩
    · exact absurd q h1
    · have q' : (8 : Int32) ≤ r := q
      have h2 : ¬ r ≤ (7 : Int32) := fun z => absurd (Int32.le_trans q' z) (by decide)
      simp [q', h2]
    · have key : ∀ j, j < 8 → ¬ (8 : Int32) ≤ nI j ∧ nI j ≤ (7 : Int32) := by decide
      simp [(key j hj).1, (key j hj).2]
end
section
/-! ===== class and reference agree: set, get, turn, round ===== -/
theorem sgl_self {v : Int64} (h : gNm v) : v = sgl (0 ≤ v) (usz v) := by
  unfold sgl
  by_cases h0 : (0 : Int64) ≤ v
  · rw [if_pos h0]; exact v_pos h0
  · rw [if_neg h0]; exact v_neg h0 h
theorem iae1 : cod1 gIAE = 1 := rfl
theorem iae2 : cod2 gIAE = 1 := by decide
theorem iae3 : cod3 gIAE = 1 := by decide
theorem ae2 : cod2 gAE = 2 := by decide
theorem ae3 : cod3 gAE = 3 := by decide
theorem uoe3 : cod3 gUOE = 2 := by decide
theorem ag_set (u : mS) (r : Int32) (n : Int64) (hB : gBs u.2.1) : gAg (jset u.2.1 r n) cod1 u.2.1 (kset u r n).1 (kset u r n).2 := by
  unfold jset kset
  by_cases h1 : kout r = 0
  · rw [if_pos h1, if_neg (fun q => (reg_out r).mp q h1)]
    have e1 : (-900000000000000 : Int64).toInt = -900000000000000 := by decide
    have e2 : (900000000000000 : Int64).toInt = 900000000000000 := by decide
    by_cases h2 : gBd n
    · have h3 : ¬ n < (-900000000000000 : Int64) := by rw [Int64.lt_iff_toInt_lt, e1]; have := h2.1; omega
      have h4 : n ≤ (900000000000000 : Int64) := by rw [Int64.le_iff_toInt_le, e2]; exact h2.2
      rw [if_neg (fun q => (isNum_iff n).mp q h2), if_neg h3, if_pos h4]
      exact Or.inl ⟨_, _, rfl, rfl, rfl, rfl, gBs_upd hB h2⟩
    · rw [if_pos ((isNum_iff n).mpr h2)]
      by_cases h3 : n < (-900000000000000 : Int64)
      · rw [if_pos h3]; exact gAg_fail iae1 (by decide)
      · have h4 : ¬ n ≤ (900000000000000 : Int64) := by
          rw [Int64.lt_iff_toInt_lt, e1] at h3
          rw [Int64.le_iff_toInt_le, e2]
          exact fun q => h2 ⟨by omega, q⟩
        rw [if_neg h3, if_neg h4]; exact gAg_fail iae1 (by decide)
  · rw [if_neg h1, if_pos ((reg_out r).mpr h1)]; exact gAg_fail iae1 (by decide)
theorem ag_get (u : mS) (r : Int32) (hB : gBs u.2.1) : gAg (jget u.2.1 r) cod1 u.2.1 (kget u r).1 (kget u r).2 := by
  unfold jget kget
  by_cases h1 : kout r = 0
  · rw [if_pos h1, if_neg (fun q => (reg_out r).mp q h1)]
    exact Or.inl ⟨_, _, rfl, rfl, rfl, rfl, hB⟩
  · rw [if_neg h1, if_pos ((reg_out r).mpr h1)]; exact gAg_fail iae1 (by decide)
theorem msb_neg (x : Int64) : x.toBitVec.msb = decide (x.toInt < 0) := by
  rw [BitVec.msb_eq_toInt]
  rfl
theorem xor_0 (x y : Int64) : (0 : Int64) ≤ x ^^^ y ↔ ((0 : Int64) ≤ x ↔ (0 : Int64) ≤ y) := by
  have h1 := msb_neg x
  have h2 := msb_neg y
  have h3 := msb_neg (x ^^^ y)
  rw [Int64.toBitVec_xor, BitVec.msb_xor, h1, h2] at h3
  rw [le0, le0, le0]
  by_cases a : x.toInt < 0 <;> by_cases b : y.toInt < 0 <;> by_cases c : (x ^^^ y).toInt < 0 <;> simp [a, b, c] at h3 <;> omega
theorem div_sg {x y : Int64} (hx : gNm x) (hy : gNm y) (h0 : ¬ y = 0) : (x / y).toInt = if (0 ≤ x.toInt ↔ 0 ≤ y.toInt) then ((usz x / usz y : Nat) : Int) else -((usz x / usz y : Nat) : Int) := by
  have h1 := usz_lt hx
  have h2 := usz_lt hy
  have h5 : usz x / usz y ≤ usz x := Nat.div_le_self _ _
  rw [Int64.toInt_div]
  have ex : x.toInt = (usz x : Int) ∨ x.toInt = -(usz x : Int) := by unfold usz; omega
  have ey : y.toInt = (usz y : Int) ∨ y.toInt = -(usz y : Int) := by unfold usz; omega
  have key : (x.toInt.tdiv y.toInt) = if (0 ≤ x.toInt ↔ 0 ≤ y.toInt) then ((usz x / usz y : Nat) : Int) else -((usz x / usz y : Nat) : Int) := by
    have hy0 := usz_0 h0
    rcases Int.le_total 0 x.toInt with sx | sx <;> rcases Int.le_total 0 y.toInt with sy | sy
    · rw [if_pos ⟨fun _ => sy, fun _ => sx⟩, show x.toInt = (usz x : Int) by unfold usz; omega, show y.toInt = (usz y : Int) by unfold usz; omega]
      rfl
    · have sy' : ¬ 0 ≤ y.toInt := by unfold usz at hy0; omega
      rw [if_neg (fun q => sy' (q.mp sx)), show x.toInt = (usz x : Int) by unfold usz; omega, show y.toInt = -(usz y : Int) by unfold usz; omega, Int.tdiv_neg]
      rfl
    · by_cases hx0 : x.toInt = 0
      · have hu : usz x = 0 := by unfold usz; omega
        rw [hx0, hu]
        simp
      · rw [if_neg (fun q => by have := q.mpr sy; omega), show x.toInt = -(usz x : Int) by unfold usz; omega, show y.toInt = (usz y : Int) by unfold usz; omega, Int.neg_tdiv]
        rfl
    · have sy' : ¬ 0 ≤ y.toInt := by unfold usz at hy0; omega
      by_cases hx0 : x.toInt = 0
      · have hu : usz x = 0 := by unfold usz; omega
        rw [hx0, hu]
        simp
      · rw [if_pos ⟨fun q => by omega, fun q => absurd q sy'⟩, show x.toInt = -(usz x : Int) by unfold usz; omega, show y.toInt = -(usz y : Int) by unfold usz; omega, Int.neg_tdiv, Int.tdiv_neg, Int.neg_neg]
        rfl
  rw [key]
  clear key
  generalize usz x / usz y = q9 at h5 ⊢
  by_cases h : (0 ≤ x.toInt ↔ 0 ≤ y.toInt)
  · rw [if_pos h]
    exact Int.bmod_eq_of_le (by omega) (by omega)
  · rw [if_neg h]
    exact Int.bmod_eq_of_le (by omega) (by omega)
theorem toInt_10000 : (10000 : Int64).toInt = 10000 := by decide
theorem nm_10000 : gNm (10000 : Int64) := by unfold gNm; decide
theorem usz_10000 : usz (10000 : Int64) = 10000 := by decide
/-- whole numbers not above: as the reference has them -/
theorem floor_eq {x : Int64} (hx : gBd x) : jfloorDiv x 10000 * (10000 : Int64) = sgl (0 ≤ x) (if (0 : Int64) ≤ x ∨ usz x ≤ usz x / 10000 * 10000 then usz x / 10000 * 10000 else usz x / 10000 * 10000 + 10000) := by
  obtain ⟨b1, b2⟩ := id hx
  have hd := div_sg (gBd_nm hx) nm_10000 (by decide)
  rw [toInt_10000, usz_10000] at hd
  have hU : usz x ≤ 900000000000000 := usz_le hx
  have hU' : usz x = x.toInt.natAbs := rfl
  unfold jfloorDiv
  have hxor := xor_0 x 10000
  have h10 : (0 : Int64) ≤ 10000 := by decide
  by_cases h0 : (0 : Int64) ≤ x
  · rw [if_pos (hxor.mpr ⟨fun _ => h10, fun _ => h0⟩), if_pos (Or.inl h0), sgl, if_pos h0]
    rw [le0] at h0
    rw [if_pos ⟨fun _ => by decide, fun _ => h0⟩] at hd
    apply Int64.toInt_inj.mp
    rw [pk_lT (by omega), Int64.toInt_mul, hd, toInt_10000]
    rw [Int.bmod_eq_of_le (by omega) (by omega)]
    omega
  · rw [if_neg (fun q => h0 ((hxor.mp q).mpr h10)), sgl, if_neg h0]
    rw [le0] at h0
    rw [if_neg (fun q => h0 (q.mpr (by decide)))] at hd
    have hm : (x / 10000 * 10000).toInt = -((usz x / 10000 * 10000 : Nat) : Int) := by
      rw [Int64.toInt_mul, hd, toInt_10000]
      rw [Int.bmod_eq_of_le (by omega) (by omega)]
      omega
    by_cases h1 : x / 10000 * 10000 = x
    · rw [if_pos h1, h1]
      rw [h1] at hm
      have h2 : usz x ≤ usz x / 10000 * 10000 := by omega
      rw [if_pos (Or.inr h2)]
      apply Int64.toInt_inj.mp
      rw [neg_lN (by omega)]
      omega
    · have h2 : ¬ ((0 : Int64) ≤ x ∨ usz x ≤ usz x / 10000 * 10000) := by
        rintro (q | q)
        · exact h0 ((le0 x).mp q)
        · exact h1 (Int64.toInt_inj.mp (by rw [hm]; omega))
      rw [if_neg h1, if_neg h2]
      apply Int64.toInt_inj.mp
      have hq1 : (x / 10000 - 1).toInt = -((usz x / 10000 : Nat) : Int) - 1 := by
        rw [Int64.toInt_sub, hd, show (1 : Int64).toInt = 1 from by decide]
        exact Int.bmod_eq_of_le (by omega) (by omega)
      rw [neg_lN (by omega), Int64.toInt_mul, hq1, toInt_10000]
      rw [Int.bmod_eq_of_le (by omega) (by omega)]
      omega
theorem g_op4 {op : Int32} (h1 : ¬ op < 0) (h2 : op ≤ (3 : Int32)) : op = 0 ∨ op = 1 ∨ op = 2 ∨ op = 3 := by
  obtain ⟨j, hj, rfl⟩ := nI_of2 (M := 3) (n := 3) rfl h1 h2
  have key : ∀ j, j < 4 → nI j = 0 ∨ nI j = 1 ∨ nI j = 2 ∨ nI j = 3 := by decide
  exact key j (by omega)
set_option maxRecDepth 20000 in
theorem ag_turn (u : mS) (r op a : Int32) (hB : gBs u.2.1) : gAg (jturn u.2.1 r op a) cod2 u.2.1 (kturn u r op a).1 (kturn u r op a).2 := by
  unfold jturn kturn
  by_cases h1 : kout r = 0
  · rw [if_pos h1, if_neg (fun q => (reg_out r).mp q h1)]
    by_cases h2 : kout a = 0
    · rw [if_neg (fun q => (reg_out a).mp q h2)]
      by_cases h3 : op < 0
      · rw [if_pos h3, if_pos h3]; exact gAg_fail iae2 (by decide)
      · rw [if_neg h3, if_neg h3]
        by_cases h4 : op ≤ (3 : Int32)
        · rw [if_pos h4, if_neg (Int32.not_lt.mpr h4), if_pos h2]
          have hx : gBd (u.2.1 a.toNatClampNeg) := hB _ (in8 (out_in h2))
          generalize u.2.1 a.toNatClampNeg = x at hx
          have hU : usz x ≤ 900000000000000 := usz_le hx
          have hn := gBd_nm hx
          rcases g_op4 h3 h4 with rfl | rfl | rfl | rfl
          · -- hundredth
            have e0 : jturned 0 x = jrq x 100 := by rw [jturned, if_pos rfl]
            rw [e0, if_pos rfl, size_eq hn]
            have e1 : (lN (usz x) + (50 : Int64)) / (100 : Int64) = lN ((usz x + 50) / 100) := by
              rw [show (50 : Int64) = lN 50 from by decide, show (100 : Int64) = lN 100 from by decide, lN_add, pk_lDiv (by omega) (by decide) (by decide)]
            rw [e1]
            have e2 : jrq x 100 = sgl (0 ≤ x) ((usz x + 50) / 100) := by
              rw [jrq_eq hn (by unfold gNm; decide) (by decide), show usz (100 : Int64) = 100 from by decide, rqN_100]
              unfold sgl
              have h100 : (0 : Int64) ≤ 100 := by decide
              by_cases q : (0 : Int64) ≤ x <;> simp [q, h100]
            by_cases q : (0 : Int64) ≤ x
            · rw [if_pos q]; exact gAg_put (0 ≤ x) hB (by omega) e2 ⟨fun _ => q, fun _ => rfl⟩ ae2 (by decide)
            · rw [if_neg q]; exact gAg_put (0 ≤ x) hB (by omega) e2 ⟨fun z => absurd z (by decide), fun z => absurd z q⟩ ae2 (by decide)
          · -- floor
            have e0 : jturned 1 x = jfloorDiv x 10000 * 10000 := by rw [jturned, if_neg (by decide), if_pos rfl]
            rw [e0, if_neg (by decide), if_neg (by decide), if_neg (by decide), size_eq hn]
            have e1 : lN (usz x) / (10000 : Int64) * (10000 : Int64) = lN (usz x / 10000 * 10000) := by
              rw [lN_lit10000, pk_lDiv (by omega) (by decide) (by decide), lN_mul]
            have e2 : lN (usz x / 10000 * 10000) + (10000 : Int64) = lN (usz x / 10000 * 10000 + 10000) := by rw [lN_lit10000, lN_add]
            have hF := floor_eq hx
            have hcm := pk_lLE (a := usz x) (b := usz x / 10000 * 10000) (by omega) (by omega)
            rw [e1, e2]
            by_cases q : (0 : Int64) ≤ x
            · rw [if_pos (Or.inl q)] at hF
              rw [if_pos q]; exact gAg_put (0 ≤ x) hB (by omega) hF ⟨fun _ => q, fun _ => rfl⟩ ae2 (by decide)
            · rw [if_neg q]
              by_cases q2 : usz x ≤ usz x / 10000 * 10000
              · rw [if_pos (Or.inr q2)] at hF
                rw [if_pos (hcm.mpr q2)]; exact gAg_put (0 ≤ x) hB (by omega) hF ⟨fun z => absurd z (by decide), fun z => absurd z q⟩ ae2 (by decide)
              · rw [if_neg (fun z => z.elim q q2)] at hF
                rw [if_neg (fun z => q2 (hcm.mp z))]; exact gAg_put (0 ≤ x) hB (by omega) hF ⟨fun z => absurd z (by decide), fun z => absurd z q⟩ ae2 (by decide)
          · -- size
            have e0 : jturned 2 x = jabs x := by rw [jturned, if_neg (by decide), if_neg (by decide), if_pos rfl]
            rw [e0, if_neg (by decide), if_pos rfl, size_eq hn, jabs_eq hn]
            exact gAg_put True hB (usz_lt hn) (by rw [sgl, if_pos trivial]) ⟨fun _ => trivial, fun _ => rfl⟩ ae2 (by decide)
          · -- turned
            have e0 : jturned 3 x = -x := by rw [jturned, if_neg (by decide), if_neg (by decide), if_neg (by decide)]
            rw [e0, if_neg (by decide), if_neg (by decide), if_pos rfl, size_eq hn]
            have e1 : -x = sgl (x ≤ 0) (usz x) := by
              have r9 := toInt_rng x
              unfold sgl
              by_cases q : x ≤ (0 : Int64)
              · rw [if_pos q]
                rw [Int64.le_iff_toInt_le, Int64.toInt_zero] at q
                apply Int64.toInt_inj.mp
                rw [pk_lT (usz_lt hn), Int64.toInt_neg, Int.bmod_eq_of_le (by unfold gNm at hn; omega) (by unfold gNm at hn; omega)]
                unfold usz; omega
              · rw [if_neg q]
                have q' : (0 : Int64) ≤ x := Int64.le_of_lt (Int64.not_le.mp q)
                rw [← v_pos q']
            by_cases q : x ≤ (0 : Int64)
            · rw [if_pos q]; exact gAg_put (x ≤ 0) hB (usz_lt hn) e1 ⟨fun _ => q, fun _ => rfl⟩ ae2 (by decide)
            · rw [if_neg q]; exact gAg_put (x ≤ 0) hB (usz_lt hn) e1 ⟨fun z => absurd z (by decide), fun z => absurd z q⟩ ae2 (by decide)
        · rw [if_neg h4, if_pos (Int32.not_le.mp h4)]; exact gAg_fail iae2 (by decide)
    · rw [if_pos ((reg_out a).mpr h2)]
      by_cases h3 : op < 0
      · rw [if_pos h3]; exact gAg_fail iae2 (by decide)
      · rw [if_neg h3]
        by_cases h4 : (3 : Int32) < op
        · rw [if_pos h4]; exact gAg_fail iae2 (by decide)
        · rw [if_neg h4, if_neg h2]; exact gAg_fail iae2 (by decide)
  · rw [if_neg h1, if_pos ((reg_out r).mpr h1)]; exact gAg_fail iae2 (by decide)
end
section
/-! ===== class and reference agree: reckon ===== -/
theorem nm_of {v : Int64} (h1 : -9223372036854775808 < v.toInt) : gNm v := by unfold gNm; omega
theorem add_toInt {x y : Int64} (hx : gBd x) (hy : gBd y) : (x + y).toInt = x.toInt + y.toInt := by
  obtain ⟨a1, a2⟩ := hx
  obtain ⟨b1, b2⟩ := hy
  rw [Int64.toInt_add]
  exact Int.bmod_eq_of_le (by omega) (by omega)
theorem sub_toInt {x y : Int64} (hx : gBd x) (hy : gBd y) : (x - y).toInt = x.toInt - y.toInt := by
  obtain ⟨a1, a2⟩ := hx
  obtain ⟨b1, b2⟩ := hy
  rw [Int64.toInt_sub]
  exact Int.bmod_eq_of_le (by omega) (by omega)
/-- the product of two sizes -/
def prodN (X Y : Nat) : Nat := X / 10000 * Y + (X % 10000 * Y + 5000) / 10000
theorem prod_b1 {X Y : Nat} (hY : Y ≤ 900000000000000) : X % 10000 * Y ≤ 8999100000000000000 := by
  have h1 : X % 10000 ≤ 9999 := by omega
  exact Nat.le_trans (Nat.mul_le_mul h1 hY) (by decide)
theorem prod_b2 {X Y : Nat} (h : X / 10000 = 0 ∨ Y ≤ 900000000000000 / (X / 10000)) : X / 10000 * Y ≤ 900000000000000 := by
  rcases Nat.eq_zero_or_pos (X / 10000) with q | q
  · rw [q]; simp
  · rcases h with h | h
    · rw [h]; simp
    · rw [Nat.mul_comm]
      exact (Nat.le_div_iff_mul_le q).mp h
theorem prod_lt {X Y : Nat} (hY : Y ≤ 900000000000000) (h : X / 10000 = 0 ∨ Y ≤ 900000000000000 / (X / 10000)) : prodN X Y < 2 ^ 62 := by
  have h1 := prod_b1 (X := X) hY
  have h2 := prod_b2 h
  unfold prodN
  generalize X / 10000 * Y = a at h2 ⊢
  generalize X % 10000 * Y = b at h1 ⊢
  omega
theorem kprod_eq {X Y : Nat} (hX : X ≤ 900000000000000) (hY : Y ≤ 900000000000000) : kproduct (lN X) (lN Y) = if X / 10000 = 0 ∨ Y ≤ 900000000000000 / (X / 10000) then lN (prodN X Y) else lN 900000000000001 := by
  have h1 := prod_b1 (X := X) hY
  have hd : lN X / (10000 : Int64) = lN (X / 10000) := by rw [lN_lit10000, pk_lDiv (by omega) (by decide) (by decide)]
  have hm : lN X - lN X / (10000 : Int64) * (10000 : Int64) = lN (X % 10000) := by rw [lN_lit10000, pk_lRem (by omega) (by decide) (by decide)]
  have hv : lN (X / 10000) * lN Y + (lN (X % 10000) * lN Y + (5000 : Int64)) / (10000 : Int64) = lN (prodN X Y) := by
    rw [lN_mul, lN_mul, show (5000 : Int64) = lN 5000 from by decide, lN_add, lN_lit10000, pk_lDiv (by omega) (by decide) (by decide), lN_add]
    rfl
  unfold kproduct
  rw [hm, hd, hv]
  have hz : lN (X / 10000) ≤ 0 ↔ X / 10000 = 0 := by rw [lN_lit0, pk_lLE (by omega) (by decide)]; omega
  by_cases c1 : X / 10000 = 0
  · rw [if_pos (hz.mpr c1), if_pos (Or.inl c1)]
  · rw [if_neg (fun q => c1 (hz.mp q))]
    have hdd : (900000000000000 : Int64) / lN (X / 10000) = lN (900000000000000 / (X / 10000)) := by rw [lim900, pk_lDiv (by decide) (by omega) (by omega)]
    have hq : 900000000000000 / (X / 10000) ≤ 900000000000000 := Nat.div_le_self _ _
    have hc : lN Y ≤ (900000000000000 : Int64) / lN (X / 10000) ↔ Y ≤ 900000000000000 / (X / 10000) := by rw [hdd, pk_lLE (by omega) (by omega)]
    by_cases c2 : Y ≤ 900000000000000 / (X / 10000)
    · rw [if_pos (hc.mpr c2), if_pos (Or.inr c2)]
    · rw [if_neg (fun q => c2 (hc.mp q)), if_neg (fun q => q.elim c1 c2)]
      decide
theorem jprodS_eq {X Y : Nat} (hX : X ≤ 900000000000000) (hY : Y ≤ 900000000000000) : jprodS (lN X) (lN Y) = if X / 10000 = 0 ∨ Y ≤ 900000000000000 / (X / 10000) then .inr (lN (prodN X Y)) else .inl gAE := by
  have h1 := prod_b1 (X := X) hY
  have hd : lN X / (10000 : Int64) = lN (X / 10000) := by rw [lN_lit10000, pk_lDiv (by omega) (by decide) (by decide)]
  have hm : lN X - lN X / (10000 : Int64) * (10000 : Int64) = lN (X % 10000) := by rw [lN_lit10000, pk_lRem (by omega) (by decide) (by decide)]
  have hr : jrq (lN (X % 10000) * lN Y) (10000 : Int64) = lN ((X % 10000 * Y + 5000) / 10000) := by
    rw [lN_mul, jrq_eq (lN_nm (by omega)) nm_10000 (by decide), usz_lN (by omega), usz_10000, rqN_10000, sgl, if_pos]
    exact ⟨fun _ => by decide, fun _ => lN_0le (by omega)⟩
  have hv : lN (X / 10000) * lN Y + jrq (lN (X % 10000) * lN Y) (10000 : Int64) = lN (prodN X Y) := by
    rw [hr, lN_mul, lN_add]
    rfl
  unfold jprodS
  rw [hm, hd, hv]
  have hz : lN (X / 10000) = 0 ↔ X / 10000 = 0 := by rw [lN_lit0, pk_lEQ (by omega) (by decide)]
  by_cases c1 : X / 10000 = 0
  · rw [if_pos (hz.mpr c1), if_pos (Or.inl c1)]
  · rw [if_neg (fun q => c1 (hz.mp q))]
    have hdd : (900000000000000 : Int64) / lN (X / 10000) = lN (900000000000000 / (X / 10000)) := by rw [lim900, pk_lDiv (by decide) (by omega) (by omega)]
    have hq : 900000000000000 / (X / 10000) ≤ 900000000000000 := Nat.div_le_self _ _
    have hc : lN Y ≤ (900000000000000 : Int64) / lN (X / 10000) ↔ Y ≤ 900000000000000 / (X / 10000) := by rw [hdd, pk_lLE (by omega) (by omega)]
    by_cases c2 : Y ≤ 900000000000000 / (X / 10000)
    · rw [if_pos (hc.mpr c2), if_pos (Or.inr c2)]
    · rw [if_neg (fun q => c2 (hc.mp q)), if_neg (fun q => q.elim c1 c2)]
theorem jprod_eq {x y : Int64} (hx : gBd x) (hy : gBd y) : jprod x y = if usz x / 10000 = 0 ∨ usz y ≤ 900000000000000 / (usz x / 10000) then .inr (sgl (0 ≤ x ↔ 0 ≤ y) (prodN (usz x) (usz y))) else .inl gAE := by
  unfold jprod
  rw [jabs_eq (gBd_nm hx), jabs_eq (gBd_nm hy), jprodS_eq (usz_le hx) (usz_le hy)]
  by_cases c : usz x / 10000 = 0 ∨ usz y ≤ 900000000000000 / (usz x / 10000)
  · rw [if_pos c, if_pos c, jbind_inr]
    unfold sgl
    by_cases c2 : (0 : Int64) ≤ x <;> by_cases c3 : (0 : Int64) ≤ y <;> simp [c2, c3]
  · rw [if_neg c, if_neg c, jbind_inl]
theorem mul_lit {x : Int64} (hx : gBd x) : (x * (10000 : Int64)).toInt = x.toInt * 10000 := by
  obtain ⟨a1, a2⟩ := hx
  rw [Int64.toInt_mul, toInt_10000]
  exact Int.bmod_eq_of_le (by omega) (by omega)
/-- the rest with the divisor's sign -/
def restN (x y : Int64) : Nat := if usz x % usz y = 0 ∨ ((0 : Int64) ≤ x ↔ (0 : Int64) ≤ y) then usz x % usz y else usz y - usz x % usz y
theorem mod_eq {x y : Int64} (hx : gBd x) (hy : gBd y) (h0 : ¬ y = 0) : jfloorMod x y = sgl (0 ≤ y) (restN x y) := by
  have hd := div_sg (gBd_nm hx) (gBd_nm hy) h0
  obtain ⟨a1, a2⟩ := id hx
  obtain ⟨b1, b2⟩ := id hy
  have hy0 := usz_0 h0
  have hlt : usz x % usz y < usz y := Nat.mod_lt _ hy0
  have hdm : usz y * (usz x / usz y) + usz x % usz y = usz x := Nat.div_add_mod _ _
  have eX : usz x = x.toInt.natAbs := rfl
  have eY : usz y = y.toInt.natAbs := rfl
  have hux := usz_le hx
  have huy := usz_le hy
  -- the truncated rest
  have hpr : (x / y).toInt * y.toInt = if 0 ≤ x.toInt then ((usz y * (usz x / usz y) : Nat) : Int) else -((usz y * (usz x / usz y) : Nat) : Int) := by
    rw [hd]
    have ey : y.toInt = (usz y : Int) ∨ y.toInt = -(usz y : Int) := by omega
    by_cases s1 : 0 ≤ x.toInt <;> by_cases s2 : 0 ≤ y.toInt
    · rw [if_pos ⟨fun _ => s2, fun _ => s1⟩, if_pos s1, show y.toInt = (usz y : Int) by omega, Int.mul_comm, Int.natCast_mul]
    · rw [if_neg (fun q => s2 (q.mp s1)), if_pos s1, show y.toInt = -(usz y : Int) by omega, Int.neg_mul_neg, Int.mul_comm, Int.natCast_mul]
    · rw [if_neg (fun q => s1 (q.mpr s2)), if_neg s1, show y.toInt = (usz y : Int) by omega, Int.neg_mul, Int.mul_comm, Int.natCast_mul]
    · rw [if_pos ⟨fun q => absurd q s1, fun q => absurd q s2⟩, if_neg s1, show y.toInt = -(usz y : Int) by omega, Int.mul_neg, Int.mul_comm, Int.natCast_mul]
  have hr : (x - x / y * y).toInt = if 0 ≤ x.toInt then ((usz x % usz y : Nat) : Int) else -((usz x % usz y : Nat) : Int) := by
    have hm : (x / y * y).toInt = (x / y).toInt * y.toInt := by
      rw [Int64.toInt_mul, hpr]
      generalize usz y * (usz x / usz y) = k at hdm ⊢
      by_cases s1 : 0 ≤ x.toInt
      · rw [if_pos s1]; exact Int.bmod_eq_of_le (by omega) (by omega)
      · rw [if_neg s1]; exact Int.bmod_eq_of_le (by omega) (by omega)
    rw [Int64.toInt_sub, hm, hpr]
    generalize usz y * (usz x / usz y) = k at hdm ⊢
    generalize usz x % usz y = j at hdm hlt ⊢
    by_cases s1 : 0 ≤ x.toInt
    · rw [if_pos s1, if_pos s1, Int.bmod_eq_of_le (by omega) (by omega)]; omega
    · rw [if_neg s1, if_neg s1, Int.bmod_eq_of_le (by omega) (by omega)]; omega
  have hz : x - x / y * y = 0 ↔ usz x % usz y = 0 := by
    rw [← Int64.toInt_inj, Int64.toInt_zero, hr]
    generalize usz x % usz y = j at hlt ⊢
    by_cases s1 : 0 ≤ x.toInt
    · rw [if_pos s1]; omega
    · rw [if_neg s1]; omega
  have hxor := xor_0 x y
  unfold jfloorMod restN sgl
  have q1 := le0 x
  have q2 := le0 y
  generalize x - x / y * y = w at hr hz ⊢
  generalize usz x % usz y = j at hlt hr hz ⊢
  by_cases c1 : ((0 : Int64) ≤ x ↔ (0 : Int64) ≤ y)
  · rw [if_pos (hxor.mpr c1), if_pos (Or.inr c1)]
    apply Int64.toInt_inj.mp
    by_cases c2 : (0 : Int64) ≤ y
    · rw [if_pos c2, hr, if_pos (q1.mp (c1.mpr c2)), pk_lT (by omega)]
    · rw [if_neg c2, hr, if_neg (fun z => c2 (c1.mp (q1.mpr z))), neg_lN (by omega)]
  · rw [if_neg (fun z => c1 (hxor.mp z))]
    by_cases c3 : j = 0
    · rw [if_pos (hz.mpr c3), if_pos (Or.inl c3)]
      rw [hz.mpr c3, c3]
      by_cases c2 : (0 : Int64) ≤ y
      · rw [if_pos c2]; decide
      · rw [if_neg c2]; decide
    · rw [if_neg (fun z => c3 (hz.mp z)), if_neg (show ¬ (j = 0 ∨ ((0 : Int64) ≤ x ↔ (0 : Int64) ≤ y)) from fun z => z.elim c3 c1)]
      apply Int64.toInt_inj.mp
      rw [Int64.toInt_add, hr]
      by_cases c2 : (0 : Int64) ≤ y
      · have c4 : ¬ 0 ≤ x.toInt := fun z => c1 ⟨fun _ => c2, fun _ => q1.mpr z⟩
        have c5 := q2.mp c2
        rw [if_pos c2, if_neg c4, pk_lT (by omega), Int.bmod_eq_of_le (by omega) (by omega)]
        omega
      · have c4 : 0 ≤ x.toInt := by
          by_cases z : (0 : Int64) ≤ x
          · exact q1.mp z
          · exact absurd ⟨fun h => absurd h z, fun h => absurd h c2⟩ c1
        have c5 : ¬ 0 ≤ y.toInt := fun z => c2 (q2.mpr z)
        rw [if_neg c2, if_pos c4, neg_lN (by omega), Int.bmod_eq_of_le (by omega) (by omega)]
        omega
theorem jrk0 (x y : Int64) : jreckoned 0 x y = .inr (x + y) := by
  unfold jreckoned
  by_cases h : y = 0
  · rw [if_pos h, if_neg (by decide), if_neg (by decide), if_pos rfl]
  · rw [if_neg h, if_pos rfl]
theorem jrk1 (x y : Int64) : jreckoned 1 x y = .inr (x - y) := by
  unfold jreckoned
  by_cases h : y = 0
  · rw [if_pos h, if_neg (by decide), if_neg (by decide), if_neg (by decide), if_pos rfl]
  · rw [if_neg h, if_neg (by decide), if_pos rfl]
theorem jrk2 (x y : Int64) : jreckoned 2 x y = jbind (jprod x y) fun r => .inr r := by
  unfold jreckoned
  by_cases h : y = 0
  · rw [if_pos h, if_neg (by decide), if_neg (by decide), if_neg (by decide), if_neg (by decide), if_pos rfl]
  · rw [if_neg h, if_neg (by decide), if_neg (by decide), if_pos rfl]
theorem jrk3 {x y : Int64} (h : ¬ y = 0) : jreckoned 3 x y = .inr (jrq (x * 10000) y) := by
  unfold jreckoned
  rw [if_neg h, if_neg (by decide), if_neg (by decide), if_neg (by decide), if_pos rfl]
theorem jrk4 {x y : Int64} (h : ¬ y = 0) : jreckoned 4 x y = .inr (jfloorMod x y) := by
  unfold jreckoned
  rw [if_neg h, if_neg (by decide), if_neg (by decide), if_neg (by decide), if_neg (by decide)]
theorem jrk3z {x y : Int64} (h : y = 0) : jreckoned 3 x y = .inl gUOE := by
  unfold jreckoned
  rw [if_pos h, if_pos rfl]
theorem jrk4z {x y : Int64} (h : y = 0) : jreckoned 4 x y = .inl gUOE := by
  unfold jreckoned
  rw [if_pos h, if_neg (by decide), if_pos rfl]
/-- put, with the reference's own sign: 0 for plus -/
theorem gAg_put2 {f : Nat → Int64} {g : Nat → Int32} {r cd : Int32} {x : Int64} {n : Nat} {code : String → Int32} (p : Prop) [Decidable p] (hB : gBs f) (hn : n < 2 ^ 63) (hx : x = sgl p n) (hc : code gAE = cd) (hc0 : ¬ cd = 0) :
    gAg (jbind (jlimited x) fun v => .inr (v, vp_updL f r.toNatClampNeg v)) code f (kput ((0 : Int32), f, g) r (if p then 0 else 1) (lN n) cd).1 (kput ((0 : Int32), f, g) r (if p then 0 else 1) (lN n) cd).2 := by
  refine gAg_put p hB hn hx ?_ hc hc0
  by_cases q : p
  · rw [if_pos q]; exact ⟨fun _ => q, fun _ => rfl⟩
  · rw [if_neg q]; exact ⟨fun z => absurd z (by decide), fun z => absurd z q⟩
/-- what the reference reckons once its arguments are in range -/
def kcore (u : mS) (r op : Int32) (x y : Int64) : Int64 × mS :=
  if op = 0 then kput ((0 : Int32), u.2.1, u.2.2) r (if 0 ≤ x + y then 0 else 1) (jX1_size (x + y)) 3
  else if op = 1 then kput ((0 : Int32), u.2.1, u.2.2) r (if 0 ≤ x - y then 0 else 1) (jX1_size (x - y)) 3
  else if op = 2 then kput ((0 : Int32), u.2.1, u.2.2) r (if (0 ≤ x ↔ 0 ≤ y) then 0 else 1) (kproduct (jX1_size x) (jX1_size y)) 3
  else if y = 0 then (((kfail ((0 : Int32), u.2.1, u.2.2) 2).1).toInt64, (kfail ((0 : Int32), u.2.1, u.2.2) 2).2)
  else if op = 3 then kput ((0 : Int32), u.2.1, u.2.2) r (if (0 ≤ x ↔ 0 ≤ y) then 0 else 1) (kquotient (jX1_size x) (jX1_size y)) 3
  else kput ((0 : Int32), u.2.1, u.2.2) r (if 0 ≤ y then 0 else 1) (if (jX1_size x - jX1_size x / jX1_size y * jX1_size y) ≤ 0 ∨ (0 ≤ x ↔ 0 ≤ y) then jX1_size x - jX1_size x / jX1_size y * jX1_size y else jX1_size y - (jX1_size x - jX1_size x / jX1_size y * jX1_size y)) 3
set_option maxRecDepth 20000 in
theorem kcore_eq {u : mS} {r op a b : Int32} (h1 : kout r = 0) (h2 : ¬ op < 0) (h3 : ¬ (4 : Int32) < op) (h4 : kout a = 0) (h5 : kout b = 0) : kreckon u r op a b = kcore u r op (u.2.1 a.toNatClampNeg) (u.2.1 b.toNatClampNeg) := by
  unfold kreckon
  rw [if_pos h1, if_neg h2, if_neg h3, if_pos h4, if_pos h5]
  generalize u.2.1 a.toNatClampNeg = x
  generalize u.2.1 b.toNatClampNeg = y
  unfold kcore
  rcases g_op5 h2 (Int32.not_lt.mp h3) with rfl | rfl | rfl | rfl | rfl
  · by_cases c : (0 : Int64) ≤ x + y <;> simp [c]
  · by_cases c : (0 : Int64) ≤ x - y <;> simp [c]
  · by_cases c : (0 : Int64) ≤ x <;> by_cases d : (0 : Int64) ≤ y <;> simp [c, d]
  · by_cases z : y = 0
    · simp [z]
    · by_cases c : (0 : Int64) ≤ x <;> by_cases d : (0 : Int64) ≤ y <;> simp [c, d, z]
  · by_cases z : y = 0
    · simp [z]
    · by_cases c : (0 : Int64) ≤ x <;> by_cases d : (0 : Int64) ≤ y <;> by_cases w : (jX1_size x - jX1_size x / jX1_size y * jX1_size y) ≤ 0 <;> simp [c, d, w, z]
theorem jreckon_bad {f : Nat → Int64} {r op a b : Int32} (h : ¬ kout r = 0 ∨ ¬ kout a = 0 ∨ ¬ kout b = 0 ∨ op < 0 ∨ (4 : Int32) < op) : jreckon f r op a b = .inl gIAE := by
  unfold jreckon
  split
  · rfl
  next h1 =>
    split
    · rfl
    next h2 =>
      split
      · rfl
      next h3 =>
        split
        · rfl
        next h4 =>
          split
          next h5 =>
            exfalso
            rcases h with h | h | h | h | h
            · exact h1 ((reg_out r).mpr h)
            · exact h2 ((reg_out a).mpr h)
            · exact h3 ((reg_out b).mpr h)
            · exact h4 h
            · exact Int32.not_lt.mpr h5 h
          · rfl
theorem kreckon_bad {u : mS} {r op a b : Int32} (h : ¬ kout r = 0 ∨ ¬ kout a = 0 ∨ ¬ kout b = 0 ∨ op < 0 ∨ (4 : Int32) < op) : kreckon u r op a b = (((kfail ((0 : Int32), u.2.1, u.2.2) (1 : Int32)).1).toInt64, (kfail ((0 : Int32), u.2.1, u.2.2) (1 : Int32)).2) := by
  unfold kreckon
  by_cases h1 : kout r = 0
  · rw [if_pos h1]
    by_cases h2 : op < 0
    · rw [if_pos h2]
    · rw [if_neg h2]
      by_cases h3 : (4 : Int32) < op
      · rw [if_pos h3]
      · rw [if_neg h3]
        by_cases h4 : kout a = 0
        · rw [if_pos h4]
          by_cases h5 : kout b = 0
          · exfalso
            rcases h with h | h | h | h | h
            · exact h h1
            · exact h h4
            · exact h h5
            · exact h2 h
            · exact h3 h
          · rw [if_neg h5]
        · rw [if_neg h4]
  · rw [if_neg h1]
set_option maxRecDepth 20000 in
theorem ag_reckon (u : mS) (r op a b : Int32) (hB : gBs u.2.1) : gAg (jreckon u.2.1 r op a b) cod3 u.2.1 (kreckon u r op a b).1 (kreckon u r op a b).2 := by
  by_cases hbad : ¬ kout r = 0 ∨ ¬ kout a = 0 ∨ ¬ kout b = 0 ∨ op < 0 ∨ (4 : Int32) < op
  · rw [jreckon_bad hbad, kreckon_bad hbad]
    exact gAg_fail iae3 (by decide)
  · have h1 : kout r = 0 := Classical.byContradiction fun q => hbad (Or.inl q)
    have h4 : kout a = 0 := Classical.byContradiction fun q => hbad (Or.inr (Or.inl q))
    have h5 : kout b = 0 := Classical.byContradiction fun q => hbad (Or.inr (Or.inr (Or.inl q)))
    have h2 : ¬ op < 0 := fun q => hbad (Or.inr (Or.inr (Or.inr (Or.inl q))))
    have h3 : ¬ (4 : Int32) < op := fun q => hbad (Or.inr (Or.inr (Or.inr (Or.inr q))))
    rw [kcore_eq h1 h2 h3 h4 h5]
    unfold jreckon
    rw [if_neg (fun q => (reg_out r).mp q h1), if_neg (fun q => (reg_out a).mp q h4), if_neg (fun q => (reg_out b).mp q h5), if_neg h2, if_pos (Int32.not_lt.mp h3)]
    have hx : gBd (u.2.1 a.toNatClampNeg) := hB _ (in8 (out_in h4))
    have hy : gBd (u.2.1 b.toNatClampNeg) := hB _ (in8 (out_in h5))
    generalize u.2.1 a.toNatClampNeg = x at hx ⊢
    generalize u.2.1 b.toNatClampNeg = y at hy ⊢
    have nx := gBd_nm hx
    have ny := gBd_nm hy
    have ux := usz_le hx
    have uy := usz_le hy
    unfold kcore
    rcases g_op5 h2 (Int32.not_lt.mp h3) with rfl | rfl | rfl | rfl | rfl
    · have e := add_toInt hx hy
      have hn : gNm (x + y) := nm_of (by rw [e]; have := hx.1; have := hy.1; omega)
      rw [jrk0, jbind_inr, if_pos rfl, size_eq hn]
      exact gAg_put2 (0 ≤ x + y) hB (usz_lt hn) (sgl_self hn) ae3 (by decide)
    · have e := sub_toInt hx hy
      have hn : gNm (x - y) := nm_of (by rw [e]; have := hx.1; have := hy.2; omega)
      rw [jrk1, jbind_inr, if_neg (by decide), if_pos rfl, size_eq hn]
      exact gAg_put2 (0 ≤ x - y) hB (usz_lt hn) (sgl_self hn) ae3 (by decide)
    · rw [jrk2, if_neg (by decide), if_neg (by decide), if_pos rfl, size_eq nx, size_eq ny, kprod_eq ux uy, jprod_eq hx hy]
      by_cases c : usz x / 10000 = 0 ∨ usz y ≤ 900000000000000 / (usz x / 10000)
      · rw [if_pos c, if_pos c, jbind_inr, jbind_inr]
        exact gAg_put2 (0 ≤ x ↔ 0 ≤ y) hB (Nat.lt_trans (prod_lt uy c) (by decide)) rfl ae3 (by decide)
      · rw [if_neg c, if_neg c, jbind_inl, jbind_inl]
        have h9 : ¬ lN 900000000000001 ≤ (900000000000000 : Int64) := by decide
        unfold kput
        rw [if_neg h9]
        exact gAg_fail ae3 (by decide)
    · rw [if_neg (by decide), if_neg (by decide), if_neg (by decide)]
      by_cases z : y = 0
      · rw [jrk3z z, jbind_inl, if_pos z]; exact gAg_fail uoe3 (by decide)
      · have em := mul_lit hx
        have hm : gNm (x * 10000) := nm_of (by rw [em]; have := hx.1; omega)
        have eu : usz (x * 10000) = 10000 * usz x := by unfold usz; rw [em]; omega
        have e0 : (0 : Int64) ≤ x * 10000 ↔ (0 : Int64) ≤ x := by rw [le0, le0, em]; omega
        have hle := rqN_le (10000 * usz x) (usz y)
        rw [jrk3 z, jbind_inr, if_neg z, if_pos rfl, size_eq nx, size_eq ny, kquot_eq (by omega) (usz_0 z) (usz_lt ny)]
        refine gAg_put2 (0 ≤ x ↔ 0 ≤ y) hB (by omega) ?_ ae3 (by decide)
        rw [jrq_eq hm ny z, eu]
        unfold sgl
        by_cases c : (0 : Int64) ≤ x <;> by_cases d : (0 : Int64) ≤ y <;> simp [c, d, e0]
    · rw [if_neg (by decide), if_neg (by decide), if_neg (by decide)]
      by_cases z : y = 0
      · rw [jrk4z z, jbind_inl, if_pos z]; exact gAg_fail uoe3 (by decide)
      · have hy0 := usz_0 z
        have hlt : usz x % usz y < usz y := Nat.mod_lt _ hy0
        have ek : (if (jX1_size x - jX1_size x / jX1_size y * jX1_size y) ≤ 0 ∨ ((0 : Int64) ≤ x ↔ (0 : Int64) ≤ y) then jX1_size x - jX1_size x / jX1_size y * jX1_size y else jX1_size y - (jX1_size x - jX1_size x / jX1_size y * jX1_size y)) = lN (restN x y) := by
          rw [size_eq nx, size_eq ny, pk_lRem (usz_lt nx) hy0 (usz_lt ny), lN_sub (Nat.le_of_lt hlt)]
          have hz : lN (usz x % usz y) ≤ 0 ↔ usz x % usz y = 0 := by rw [lN_lit0, pk_lLE (by omega) (by decide)]; omega
          unfold restN
          by_cases c : usz x % usz y = 0 ∨ ((0 : Int64) ≤ x ↔ (0 : Int64) ≤ y)
          · rw [if_pos c, if_pos (c.imp hz.mpr id)]
          · rw [if_neg c, if_neg (fun q => c (q.imp hz.mp id))]
        rw [jrk4 z, jbind_inr, if_neg z, if_neg (by decide), ek]
        refine gAg_put2 (0 ≤ y) hB ?_ (mod_eq hx hy z) ae3 (by decide)
        unfold restN
        split <;> omega
end
section
/-! ===== class and reference agree: round, average, print ===== -/
theorem gP_lt {j : Nat} (h : j < 14) : 10 ^ j < 2 ^ 62 := Nat.lt_of_le_of_lt (p10_le (show j ≤ 13 by omega)) (by decide)
theorem gP_at {j : Nat} (h : j < 14) : ¬ gP j = 0 := by
  have key : ∀ j, j < 14 → ¬ gP j = 0 := by decide
  exact key j h
set_option maxRecDepth 20000 in
theorem ag_round (u : mS) (r a d : Int32) (hB : gBs u.2.1) : gAg (jround u.2.1 r a d) cod2 u.2.1 (kround u r a d).1 (kround u r a d).2 := by
  unfold jround kround
  by_cases h1 : kout r = 0
  · rw [if_pos h1, if_neg (fun q => (reg_out r).mp q h1)]
    by_cases h2 : kout a = 0
    · rw [if_pos h2, if_neg (fun q => (reg_out a).mp q h2)]
      by_cases h3 : d < (-9 : Int32)
      · rw [if_pos h3, if_pos h3]; exact gAg_fail iae2 (by decide)
      · rw [if_neg h3, if_neg h3]
        by_cases h4 : d ≤ (4 : Int32)
        · rw [if_pos h4, if_pos h4]
          have hx : gBd (u.2.1 a.toNatClampNeg) := hB _ (in8 (out_in h2))
          generalize u.2.1 a.toNatClampNeg = x at hx
          obtain ⟨j, hj, ej⟩ := vp_in_of (g_ixD h3 h4) (by decide)
          rw [ej, nI_clamp (by omega)]
          have hU : usz x ≤ 900000000000000 := usz_le hx
          have hn := gBd_nm hx
          have hp0 := p10_pos j
          have hp1 := gP_lt hj
          have hp2 : 10 ^ j ≤ 10000000000000 := Nat.le_trans (p10_le (show j ≤ 13 by omega)) (by decide)
          have hm : usz x % 10 ^ j < 10 ^ j := Nat.mod_lt _ hp0
          have hdm : 10 ^ j * (usz x / 10 ^ j) + usz x % 10 ^ j = usz x := Nat.div_add_mod _ _
          have eP : gP j = lN (10 ^ j) := rfl
          have uP : usz (gP j) = 10 ^ j := by rw [eP]; exact usz_lN (by omega)
          have nP : gNm (gP j) := by rw [eP]; exact lN_nm (by omega)
          have zP : (0 : Int64) ≤ gP j := by rw [eP]; exact lN_0le (by omega)
          have q1 : jrq x (gP j) = sgl (0 ≤ x) (rqN (usz x) (10 ^ j)) := by
            rw [jrq_eq hn nP (gP_at hj), uP]
            unfold sgl
            by_cases q : (0 : Int64) ≤ x <;> simp [q, zP]
          have hrq : rqN (usz x) (10 ^ j) * 10 ^ j ≤ 910000000000000 := by
            unfold rqN
            rw [Nat.mul_comm] at hdm
            split
            · omega
            · rw [Nat.add_mul]; omega
          have q2 : jrq x (gP j) * gP j = sgl (0 ≤ x) (rqN (usz x) (10 ^ j) * 10 ^ j) := by
            rw [q1, eP]
            unfold sgl
            by_cases q : (0 : Int64) ≤ x
            · rw [if_pos q, if_pos q, lN_mul]
            · rw [if_neg q, if_neg q, ← lN_mul]
              generalize lN (rqN (usz x) (10 ^ j)) = A
              generalize lN (10 ^ j) = B
              grind
          have es : jX1_size x / gP j * gP j = lN (usz x / 10 ^ j * 10 ^ j) := by rw [size_eq hn, eP, pk_lDiv (by omega) hp0 (by omega), lN_mul]
          have er : jX1_size x - jX1_size x / gP j * gP j = lN (usz x % 10 ^ j) := by rw [size_eq hn, eP, pk_lRem (by omega) hp0 (by omega)]
          have ec : gP j - lN (usz x % 10 ^ j) = lN (10 ^ j - usz x % 10 ^ j) := by rw [eP, lN_sub (Nat.le_of_lt hm)]
          have ea : lN (usz x / 10 ^ j * 10 ^ j) + gP j = lN (usz x / 10 ^ j * 10 ^ j + 10 ^ j) := by rw [eP, lN_add]
          have hc := pk_lLT (a := usz x % 10 ^ j) (b := 10 ^ j - usz x % 10 ^ j) (by omega) (by omega)
          rw [er, es, ec, ea]
          by_cases c : usz x % 10 ^ j < 10 ^ j - usz x % 10 ^ j
          · have e9 : rqN (usz x) (10 ^ j) * 10 ^ j = usz x / 10 ^ j * 10 ^ j := by rw [rqN, if_pos c]
            rw [e9] at q2 hrq
            rw [if_pos (hc.mpr c)]
            by_cases q : (0 : Int64) ≤ x
            · rw [if_pos q]; exact gAg_put (0 ≤ x) hB (by omega) q2 ⟨fun _ => q, fun _ => rfl⟩ ae2 (by decide)
            · rw [if_neg q]; exact gAg_put (0 ≤ x) hB (by omega) q2 ⟨fun z => absurd z (by decide), fun z => absurd z q⟩ ae2 (by decide)
          · have e9 : rqN (usz x) (10 ^ j) * 10 ^ j = usz x / 10 ^ j * 10 ^ j + 10 ^ j := by rw [rqN, if_neg c, Nat.add_mul, Nat.one_mul]
            rw [e9] at q2 hrq
            rw [if_neg (fun z => c (hc.mp z))]
            by_cases q : (0 : Int64) ≤ x
            · rw [if_pos q]; exact gAg_put (0 ≤ x) hB (by omega) q2 ⟨fun _ => q, fun _ => rfl⟩ ae2 (by decide)
            · rw [if_neg q]; exact gAg_put (0 ≤ x) hB (by omega) q2 ⟨fun z => absurd z (by decide), fun z => absurd z q⟩ ae2 (by decide)
        · rw [if_neg h4, if_neg h4]; exact gAg_fail iae2 (by decide)
    · rw [if_neg h2, if_pos ((reg_out a).mpr h2)]; exact gAg_fail iae2 (by decide)
  · rw [if_neg h1, if_pos ((reg_out r).mpr h1)]; exact gAg_fail iae2 (by decide)
/-- the running sums -/
theorem avg_eq {f : Nat → Int64} {N : Nat} (hB : gBs f) (hN : N ≤ 8) : ∀ i k v, gBd v → (∃ w, gBd w ∧ javgF f N i k v = .inr w ∧ kavgF f N i k v = some w) ∨ (javgF f N i k v = .inl gAE ∧ kavgF f N i k v = none)
  | 0, k, v, hv => Or.inl ⟨v, hv, rfl, rfl⟩
  | i + 1, k, v, hv => by
    unfold javgF kavgF
    by_cases hk : k < N
    · rw [if_pos hk, if_pos hk]
      have hf := hB k (by omega)
      have e := add_toInt hv hf
      have hn : gNm (v + f k) := nm_of (by rw [e]; have := hv.1; have := hf.1; omega)
      have hs : jX1_size (v + f k) ≤ (900000000000000 : Int64) ↔ gBd (v + f k) := by
        rw [size_eq hn, lim900, pk_lLE (usz_lt hn) (by decide)]
        unfold usz gBd
        omega
      by_cases hb : gBd (v + f k)
      · rw [jlim_in hb, jbind_inr, if_pos (hs.mpr hb)]
        exact avg_eq hB hN i (k + 1) (v + f k) hb
      · rw [jlim_out hb, jbind_inl, if_neg (fun q => hb (hs.mp q))]
        exact Or.inr ⟨rfl, rfl⟩
    · rw [if_neg hk, if_neg hk]
      exact Or.inl ⟨v, hv, rfl, rfl⟩
theorem n8_facts : ∀ N, N < 9 → 1 ≤ N → (nI N).toInt64 = lN N ∧ ¬ (nI N).toInt64 = 0 := by decide
theorem ag_average (u : mS) (n : Int32) (hB : gBs u.2.1) : gAg (javerage u.2.1 n) cod2 u.2.1 (kaverage u n).1 (kaverage u n).2 := by
  unfold javerage kaverage
  by_cases h1 : n < (1 : Int32)
  · rw [if_pos h1, if_pos h1]; exact gAg_fail iae2 (by decide)
  · rw [if_neg h1, if_neg h1]
    by_cases h2 : n ≤ (8 : Int32)
    · rw [if_pos h2, if_pos h2]
      obtain ⟨N, hN1, hN8, rfl⟩ := g_n8 h1 h2
      rw [nI_clamp (by omega)]
      rcases avg_eq (f := u.2.1) (N := N) hB hN8 9 0 0 ⟨by decide, by decide⟩ with ⟨w, hw, e1, e2⟩ | ⟨e1, e2⟩
      · obtain ⟨f1, f2⟩ := n8_facts N (by omega) hN1
        have hn := gBd_nm hw
        have hU := usz_le hw
        rw [e1, e2, jbind_inr, kopt_some, f1]
        have q1 : jrq w (lN N) = sgl (0 ≤ w) (rqN (usz w) N) := by
          rw [jrq_eq hn (lN_nm (by omega)) (by rw [← f1]; exact f2), usz_lN (by omega)]
          have zP : (0 : Int64) ≤ lN N := lN_0le (by omega)
          unfold sgl
          by_cases q : (0 : Int64) ≤ w <;> simp [q, zP]
        have q2 : kquotient (jX1_size w) ((10000 : Int64) * lN N) = lN (rqN (usz w) N) := by
          rw [size_eq hn, lN_lit10000, lN_mul, kquot_eq (by omega) (by omega) (by omega), rqN_c 10000 (by decide) (by omega)]
        rw [q1, q2]
        unfold sgl
        by_cases q : (0 : Int64) ≤ w
        · rw [if_pos q, if_pos q]; exact Or.inl ⟨_, _, rfl, rfl, rfl, rfl, hB⟩
        · rw [if_neg q, if_neg q]; exact Or.inl ⟨_, _, rfl, rfl, rfl, rfl, hB⟩
      · rw [e1, e2, jbind_inl, kopt_none]; exact gAg_fail ae2 (by decide)
    · rw [if_neg h2, if_neg h2]; exact gAg_fail iae2 (by decide)
/-- digits, as the class has them -/
theorem digit_eq {n j : Nat} (hn : n < 2 ^ 62) (hj : j < 14) : jdigit (lN n) (nI j) = nI (48 + n / 10 ^ j % 10) := by
  have h1 : n / 10 ^ j ≤ n := Nat.div_le_self _ _
  unfold jdigit
  rw [nI_clamp (by omega), show gP j = lN (10 ^ j) from rfl, pk_lDiv (by omega) (p10_pos j) (by have := gP_lt hj; omega), lN_lit10, pk_lRem (by omega) (by decide) (by decide), lN_i, show (48 : Int32) = nI 48 from by decide, nI_add]
theorem behind_eq {F b : Nat} (hF : F < 10000) (hb : b < 2 ^ 31) : jbehind (lN F) (nI b) = if F = 0 ∨ 4 < b then -1 else if b = 0 then 46 else if F % 10 ^ (5 - b) = 0 then -1 else nI (48 + F / 10 ^ (4 - b) % 10) := by
  have hz : lN F = 0 ↔ F = 0 := by rw [lN_lit0, pk_lEQ (by omega) (by decide)]
  have h4 : (4 : Int32) < nI b ↔ 4 < b := by rw [show (4 : Int32) = nI 4 from by decide, nI_ltI (by omega) hb]
  have h0 : nI b = 0 ↔ b = 0 := by rw [show (0 : Int32) = nI 0 from by decide, nI_eq hb (by omega)]
  unfold jbehind
  by_cases c1 : 4 < b
  · rw [if_pos (h4.mpr c1), if_pos (Or.inr c1)]
  · rw [if_neg (fun q => c1 (h4.mp q))]
    by_cases c2 : F = 0
    · rw [if_pos (Or.inl c2)]
      simp [hz.mpr c2]
    · rw [if_neg (show ¬ (F = 0 ∨ 4 < b) from fun q => q.elim c2 c1)]
      by_cases c3 : b = 0
      · rw [if_pos c3]
        simp [hz, c2, h0.mpr c3]
      · rw [if_neg c3]
        have e1 : (4 : Int32) - nI b = nI (4 - b) := by rw [show (4 : Int32) = nI 4 from by decide, pk_sub (by omega)]
        have e2 : nI (4 - b) + (1 : Int32) = nI (5 - b) := by rw [nI_1, show 4 - b + 1 = 5 - b from by omega]
        have e3 : lN F - lN F / gP (nI (5 - b)).toNatClampNeg * gP (nI (5 - b)).toNatClampNeg = lN (F % 10 ^ (5 - b)) := by
          rw [nI_clamp (by omega), show gP (5 - b) = lN (10 ^ (5 - b)) from rfl, pk_lRem (by omega) (p10_pos _) (by have := gP_lt (show 5 - b < 14 by omega); omega)]
        have hm : F % 10 ^ (5 - b) ≤ F := Nat.mod_le _ _
        have e4 : lN (F % 10 ^ (5 - b)) = 0 ↔ F % 10 ^ (5 - b) = 0 := by rw [lN_lit0, pk_lEQ (by omega) (by decide)]
        rw [e1, e2, e3, digit_eq (by omega) (by omega)]
        by_cases c4 : F % 10 ^ (5 - b) = 0
        · rw [if_neg (fun q => c2 (hz.mp q)), if_neg (fun q => c3 (h0.mp q)), if_pos (e4.mpr c4), if_pos c4]
        · rw [if_neg (fun q => c2 (hz.mp q)), if_neg (fun q => c3 (h0.mp q)), if_neg (fun q => c4 (e4.mp q)), if_neg c4]
theorem byte_eq {U q : Nat} (hU : U ≤ 900000000000000) (hq : q < 2 ^ 31) : jbyte (lN U) (nI q) = kbyte U q := by
  have hd : lN U / (10000 : Int64) = lN (U / 10000) := by rw [lN_lit10000, pk_lDiv (by omega) (by decide) (by decide)]
  have hm : lN U - lN U / (10000 : Int64) * (10000 : Int64) = lN (U % 10000) := by rw [lN_lit10000, pk_lRem (by omega) (by decide) (by decide)]
  obtain ⟨w1, w2, -, -⟩ := kwd_spec (W := U / 10000) (by omega)
  have ew : jwd (lN (U / 10000)) = nI (kwd (U / 10000)) := rfl
  unfold jbyte kbyte
  rw [hm, hd, ew]
  have hc : nI (kwd (U / 10000)) ≤ nI q ↔ kwd (U / 10000) ≤ q := nI_leI (by omega) hq
  by_cases c : q < kwd (U / 10000)
  · rw [if_pos c, if_neg (fun z => by have := hc.mp z; omega)]
    rw [show (1 : Int32) = nI 1 from by decide, pk_sub (by omega), pk_sub (by omega), digit_eq (by omega) (by omega)]
  · rw [if_neg c, if_pos (hc.mpr (by omega)), pk_sub (by omega), behind_eq (by omega) (by omega)]
theorem print_eq {v : Int64} (hv : gBd v) {i : Int32} (hi : (0 : Int32) ≤ i) : (if v < (0 : Int64) then (if i = (0 : Int32) then (45 : Int32) else jbyte (-v) (i - (1 : Int32))) else jbyte v i) = ktext v i.toNatClampNeg := by
  obtain ⟨q, hq, rfl⟩ := nI_of (Int32.not_lt.mpr hi)
  have hU := usz_le hv
  have hn := gBd_nm hv
  rw [nI_clamp hq]
  unfold ktext
  by_cases c : v < (0 : Int64)
  · rw [if_pos c, if_pos c]
    have h0 : nI q = 0 ↔ q = 0 := by rw [show (0 : Int32) = nI 0 from by decide, nI_eq hq (by omega)]
    by_cases c2 : q = 0
    · rw [if_pos c2, if_pos (h0.mpr c2)]
    · rw [if_neg c2, if_neg (fun z => c2 (h0.mp z))]
      have ev : -v = lN (usz v) := by
        have e := v_neg (Int64.not_le.mpr c) hn
        generalize usz v = k at e
        rw [e]
        simp
      rw [ev, show (1 : Int32) = nI 1 from by decide, pk_sub (by omega), byte_eq hU (by omega)]
  · rw [if_neg c, if_neg c]
    have ev : v = lN (usz v) := v_pos (Int64.not_lt.mp c)
    have e2 := byte_eq (q := q) hU hq
    rw [← ev] at e2
    exact e2
theorem ag_print (u u9 : mS) (z9 a i : Int32) (hB : gBs u.2.1) (h1 : u9.2.1 = u.2.1) (h2 : if kout a = 0 ∧ (0 : Int32) ≤ i then z9 = ktext (u.2.1 a.toNatClampNeg) i.toNatClampNeg ∧ u9.1 = 0 else u9.1 = 1) : gAg (jprintL u.2.1 a i) cod1 u.2.1 z9.toInt64 u9 := by
  unfold jprintL jprint
  by_cases c1 : kout a = 0
  · rw [if_neg (fun q => (reg_out a).mp q c1)]
    by_cases c2 : (0 : Int32) ≤ i
    · rw [if_pos ⟨c1, c2⟩] at h2
      have hx : gBd (u.2.1 a.toNatClampNeg) := hB _ (in8 (out_in c1))
      have he := print_eq hx c2
      rw [if_pos c2]
      refine Or.inl ⟨z9.toInt64, u.2.1, ?_, h2.2, rfl, h1, hB⟩
      rw [h2.1, ← he]
      by_cases c3 : u.2.1 a.toNatClampNeg < (0 : Int64)
      · rw [if_pos c3, if_pos c3]
        by_cases c4 : i = (0 : Int32)
        · rw [if_pos c4, if_pos c4]
        · rw [if_neg c4, if_neg c4]
      · rw [if_neg c3, if_neg c3]
    · rw [if_neg (fun q => c2 q.2)] at h2
      rw [if_neg c2]
      exact Or.inr ⟨gIAE, rfl, h2, by decide, h1⟩
  · rw [if_neg (fun q => c1 q.1)] at h2
    rw [if_pos ((reg_out a).mpr c1)]
    exact Or.inr ⟨gIAE, rfl, h2, by decide, h1⟩
end
section
/-! ===== the law's body: one call a turn ===== -/
/-- all that the law holds: the desk, its own row, the reference -/
abbrev wA (h0 h1 o0 m0 m1 m2 : Nat) (cJ cO cK cI : ClassId) (f g : Nat → Int64) (u : mS) : va_W := [(h0, .inr (0, [.ref h1])), (h1, .inl (cJ, 8, .inr (.inl f))), (o0, .inl (cO, 1, .inr (.inl g))), (m0, .inr (1, [.int u.1, .ref m1, .ref m2])), (m1, .inl (cK, 8, .inr (.inl u.2.1))), (m2, .inl (cI, 24, .inl u.2.2))]
theorem six {a k L : Nat} {kk : Int32} (e : kk = nI k) (h : a + k < L) (hL : L ≤ 2560) : vp_in (nI a + kk) L := by
  rw [e, nI_add]
  exact vp_in_nI h (by omega)
theorem gRes_k {res : String ⊕ (Int64 × (Nat → Int64))} {code : String → Int32} {f : Nat → Int64} {k : Int32} {q : (Nat → Int64) × (Nat → Int64)} {z : Int64} {u : mS} (h1 : gRes res code f k q) (h2 : gAg res code f z u) (hB : gBs f) : u.1 = k ∧ (k = 0 → q.2 0 = z) ∧ u.2.1 = q.1 ∧ gBs q.1 := by
  rcases h1 with ⟨v, f1, e1, rfl, e2, e3⟩ | ⟨E, e1, e2, e3⟩
  · rcases h2 with ⟨v', f1', g1, g2, g3, g4, g5⟩ | ⟨E', g1, -⟩
    · rw [e1] at g1
      cases g1
      exact ⟨g2, fun _ => by rw [e3, g3], by rw [g4, e2], by rw [e2]; exact g5⟩
    · rw [e1] at g1; cases g1
  · rcases h2 with ⟨v', f1', g1, -⟩ | ⟨E', g1, g2, g3, g4⟩
    · rw [e1] at g1; cases g1
    · rw [e1] at g1
      cases g1
      exact ⟨by rw [g2, e2], fun hk => absurd (by rw [← e2]; exact hk) g3, by rw [g4, e3], by rw [e3]; exact hB⟩
section GW
variable {p : Program} {l : Launch} {e : Env} {R : Room} {s : State} {m : MethodId} {args : Array Value} {below : List Frame} {meth : Method} {c : Code} {H : Heap} {locs : List Loc} {cells slots : Nat} {Q : State → Prop}
variable {cc : ByteArray} {pc : Nat} {ls : Array Slot} {rest st0 : List Value} {A0 : Nat → Prop} {Ts : List Cond} {own : String} {nL : Nat}
variable {y : MethodName} {b : ByteArray} {n index t : Nat} {rm : Room} {As : List Value} {D : va_G} {h0 h1 o0 m0 m1 m2 : Nat} {cJ cO cK cI : ClassId} {f g : Nat → Int64} {u : mS}
theorem g_callL {hh : List (Nat × Nat × Nat × Nat)} {res : String ⊕ (Int64 × (Nat → Int64))} {code : String → Int32} (S : CallFix p m c cc nL s args Ts own) (hs : ∀ w ∈ gws, w ∈ Ts) (hM : gL l y b n hh rm t D h0 h1 o0 cJ cO f g As res code)
    (k1 : Cond.methodLink own index y ∈ gws) (k2 : Cond.static y ∈ gws) (k3 : Cond.initialized y.cls ∈ gws) (k4 : Cond.codeWith y b n (some .int) hh ∈ gws)
    (hd : y.cls ≠ "java/lang/invoke/MethodHandle" ∧ y.cls ≠ "java/lang/invoke/VarHandle" ∧ (parseMethodDescriptor y.desc).map (fun d => d.parameters.length) = some As.length)
    (hR : rm.frames + 1 ≤ R.frames ∧ 8 + (n + 11) + rm.locals ≤ R.locals) (hE : gE t A0 s s.heap) (hS : va_S A0 s.heap H locs) (hA : ∀ q, s.heap.size ≤ q → A0 q) (hP : va_P D vwCl (wA h0 h1 o0 m0 m1 m2 cJ cO cK cI f g u) H) (hK : va_K D vwCl [(cJ, .long), (cO, .long), (cK, .long), (cI, .int)] s) (hD : va_D A0 (wA h0 h1 o0 m0 m1 m2 cJ cO cK cI f g u)) (hsize : ls.size = nL)
    (hstack : st0 = As.reverse ++ rest) (hW : (rest.map fun v => v.category).sum ≤ 8) (hf : cells + rm.cells ≤ R.cells ∧ slots + rm.slots ≤ R.slots) (hdg : decode cc pc = .ok (.invokestatic index, 3))
    (kk : ∀ (k : Int32) (f' g' : Nat → Int64) (H1 : Heap) (locs1 : List Loc), gRes res code f k (f', g') → va_P D vwCl (wA h0 h1 o0 m0 m1 m2 cJ cO cK cI f' g' u) H1 → va_D A0 (wA h0 h1 o0 m0 m1 m2 cJ cO cK cI f' g' u) → va_S A0 s.heap H1 locs1 → W p l e R s m args below meth c H1 locs1 (cells + rm.cells) (slots + rm.slots) Q (F0 m (pc + 3) ls (.int k :: rest))) :
    W p l e R s m args below meth c H locs cells slots Q (F0 m pc ls st0) := by
  have hPc := hP.sub (ws' := wL h0 h1 o0 cJ cO f g) [0, 1, 2] rfl
  have hDc := hD.sub (ws' := wL h0 h1 o0 cJ cO f g) [0, 1, 2] (by decide) rfl
  have hKc := hK.sub (tys' := [(cJ, .long), (cO, .long)]) [0, 1] rfl
  have hFc := va_free (wc := wL h0 h1 o0 cJ cO f g) hD hS hA [0, 1, 2] rfl
  have hpre : PreS s H (gLPre t D h0 h1 o0 cJ cO f g H.size As) As := ⟨gLPre_blind t D h0 h1 o0 cJ cO f g H.size As, fun U hU hW => ⟨rfl, by rw [hU], by rw [hU]; exact ((hE.kept hS.2.1).narrow hFc).warm hW, by rw [hU]; exact hPc, va_K.moved hW.alike hKc, hDc.weaken (fun _ _ _ _ => trivial)⟩⟩
  refine va_calli (vx_runSW (As := As) (rest := rest) (g := F0 m pc ls st0) S (hM H.size) (vx_cwSW As.length S.2.2.2.2 (gw_S hs k1 k2 k3 k4) rfl rfl rfl hd hR) hpre rfl rfl hsize hstack (lv_room hW) hdg hf) hS (fun q _ h => hFc q h) hFc
    (fun k q t' H1 locs1 ht hvm hp hB hz hk hS1 => ?_)
  obtain ⟨f', g'⟩ := q
  obtain ⟨hP1, hK1, hD1⟩ := hB
  rw [ht] at hP1
  obtain ⟨hP2, hD2⟩ := va_join (wr := wM m0 m1 m2 cK cI u) (w1 := wL h0 h1 o0 cJ cO f' g') hP hD [0, 1, 2] [3, 4, 5] rfl rfl (by decide) (by decide) hk hFc hP1 hD1
  exact kk k f' g' H1 locs1 hp (hP2.sub [3, 4, 5, 0, 1, 2] rfl) (hD2.sub [3, 4, 5, 0, 1, 2] (by decide) rfl) hS1
theorem g_callAl {post : Int64 → mS → Prop} (S : CallFix p m c cc nL s args Ts own) (hs : ∀ w ∈ gws, w ∈ Ts) (hM : gMl l y b n rm t D m0 m1 m2 cK cI u As post) (hyc : y.cls = RX1)
    (k1 : Cond.methodLink own index y ∈ gws) (k2 : Cond.instanceMethod y ∈ gws) (k3 : Cond.selects RX1 y y ∈ gws) (k4 : Cond.code y b n (some .long) ∈ gws)
    (hd : y.cls ≠ "java/lang/invoke/MethodHandle" ∧ y.cls ≠ "java/lang/invoke/VarHandle" ∧ (parseMethodDescriptor y.desc).map (fun d => d.parameters.length) = some As.length)
    (hR : rm.frames + 1 ≤ R.frames ∧ 8 + (n + 11) + rm.locals ≤ R.locals) (hE : gE t A0 s s.heap) (hS : va_S A0 s.heap H locs) (hA : ∀ q, s.heap.size ≤ q → A0 q) (hP : va_P D vwCl (wA h0 h1 o0 m0 m1 m2 cJ cO cK cI f g u) H) (hK : va_K D vwCl [(cJ, .long), (cO, .long), (cK, .long), (cI, .int)] s) (hD : va_D A0 (wA h0 h1 o0 m0 m1 m2 cJ cO cK cI f g u)) (hsize : ls.size = nL)
    (hstack : st0 = As.reverse ++ .ref m0 :: rest) (hW : (rest.map fun v => v.category).sum ≤ 8) (hf : cells + rm.cells ≤ R.cells ∧ slots + rm.slots ≤ R.slots) (hdg : decode cc pc = .ok (.invokevirtual index, 3))
    (kk : ∀ (r : Int64) (u' : mS) (H1 : Heap) (locs1 : List Loc), post r u' → va_P D vwCl (wA h0 h1 o0 m0 m1 m2 cJ cO cK cI f g u') H1 → va_D A0 (wA h0 h1 o0 m0 m1 m2 cJ cO cK cI f g u') → va_S A0 s.heap H1 locs1 → W p l e R s m args below meth c H1 locs1 (cells + rm.cells) (slots + rm.slots) Q (F0 m (pc + 3) ls (.long r :: rest))) :
    W p l e R s m args below meth c H locs cells slots Q (F0 m pc ls st0) := by
  have hPc := hP.sub (ws' := wM m0 m1 m2 cK cI u) [3, 4, 5] rfl
  have hDc := hD.sub (ws' := wM m0 m1 m2 cK cI u) [3, 4, 5] (by decide) rfl
  have hKc := hK.sub (tys' := [(cK, .long), (cI, .int)]) [2, 3] rfl
  have hFc := va_free (wc := wM m0 m1 m2 cK cI u) hD hS hA [3, 4, 5] rfl
  refine va_calll (va_runV (As := As) (rest := rest) (g := F0 m pc ls st0) S (hM H.size) (cwV As.length S.2.2.2.2 (gw_V hs k1 k2 k3 in_X1 k4) rfl rfl rfl ⟨hyc, hd⟩ hR) (g_preM hE hS hPc hKc hDc hFc) rfl rfl hsize hstack (lv_room hW) hdg hf) hS (fun q _ h => hFc q h) hFc
    (fun r u' t' H1 locs1 ht hvm hp hB hz hk hS1 => ?_)
  obtain ⟨hP1, hK1, hD1⟩ := hB
  rw [ht] at hP1
  obtain ⟨hP2, hD2⟩ := va_join (wr := wL h0 h1 o0 cJ cO f g) (w1 := wM m0 m1 m2 cK cI u') hP hD [3, 4, 5] [0, 1, 2] rfl rfl (by decide) (by decide) hk hFc hP1 hD1
  exact kk r u' H1 locs1 hp hP2 hD2 hS1
theorem g_callAi {post : Int32 → mS → Prop} (S : CallFix p m c cc nL s args Ts own) (hs : ∀ w ∈ gws, w ∈ Ts) (hM : gMi l y b n rm t D m0 m1 m2 cK cI u As post) (hyc : y.cls = RX1)
    (k1 : Cond.methodLink own index y ∈ gws) (k2 : Cond.instanceMethod y ∈ gws) (k3 : Cond.selects RX1 y y ∈ gws) (k4 : Cond.code y b n (some .int) ∈ gws)
    (hd : y.cls ≠ "java/lang/invoke/MethodHandle" ∧ y.cls ≠ "java/lang/invoke/VarHandle" ∧ (parseMethodDescriptor y.desc).map (fun d => d.parameters.length) = some As.length)
    (hR : rm.frames + 1 ≤ R.frames ∧ 8 + (n + 11) + rm.locals ≤ R.locals) (hE : gE t A0 s s.heap) (hS : va_S A0 s.heap H locs) (hA : ∀ q, s.heap.size ≤ q → A0 q) (hP : va_P D vwCl (wA h0 h1 o0 m0 m1 m2 cJ cO cK cI f g u) H) (hK : va_K D vwCl [(cJ, .long), (cO, .long), (cK, .long), (cI, .int)] s) (hD : va_D A0 (wA h0 h1 o0 m0 m1 m2 cJ cO cK cI f g u)) (hsize : ls.size = nL)
    (hstack : st0 = As.reverse ++ .ref m0 :: rest) (hW : (rest.map fun v => v.category).sum ≤ 8) (hf : cells + rm.cells ≤ R.cells ∧ slots + rm.slots ≤ R.slots) (hdg : decode cc pc = .ok (.invokevirtual index, 3))
    (kk : ∀ (r : Int32) (u' : mS) (H1 : Heap) (locs1 : List Loc), post r u' → va_P D vwCl (wA h0 h1 o0 m0 m1 m2 cJ cO cK cI f g u') H1 → va_D A0 (wA h0 h1 o0 m0 m1 m2 cJ cO cK cI f g u') → va_S A0 s.heap H1 locs1 → W p l e R s m args below meth c H1 locs1 (cells + rm.cells) (slots + rm.slots) Q (F0 m (pc + 3) ls (.int r :: rest))) :
    W p l e R s m args below meth c H locs cells slots Q (F0 m pc ls st0) := by
  have hPc := hP.sub (ws' := wM m0 m1 m2 cK cI u) [3, 4, 5] rfl
  have hDc := hD.sub (ws' := wM m0 m1 m2 cK cI u) [3, 4, 5] (by decide) rfl
  have hKc := hK.sub (tys' := [(cK, .long), (cI, .int)]) [2, 3] rfl
  have hFc := va_free (wc := wM m0 m1 m2 cK cI u) hD hS hA [3, 4, 5] rfl
  refine va_calli (va_runV (As := As) (rest := rest) (g := F0 m pc ls st0) S (hM H.size) (cwV As.length S.2.2.2.2 (gw_V hs k1 k2 k3 in_X1 k4) rfl rfl rfl ⟨hyc, hd⟩ hR) (g_preM hE hS hPc hKc hDc hFc) rfl rfl hsize hstack (lv_room hW) hdg hf) hS (fun q _ h => hFc q h) hFc
    (fun r u' t' H1 locs1 ht hvm hp hB hz hk hS1 => ?_)
  obtain ⟨hP1, hK1, hD1⟩ := hB
  rw [ht] at hP1
  obtain ⟨hP2, hD2⟩ := va_join (wr := wL h0 h1 o0 cJ cO f g) (w1 := wM m0 m1 m2 cK cI u') hP hD [3, 4, 5] [0, 1, 2] rfl rfl (by decide) (by decide) hk hFc hP1 hD1
  exact kk r u' H1 locs1 hp hP2 hD2 hS1
end GW
set_option maxHeartbeats 4000000 in
set_option maxRecDepth 100000 in
theorem lc_set {p : Program} {l : Launch} {e : Env} {s : State} {m : MethodId} {args : Array Value} {below : List Frame} {meth : Method} {c : Code} {H : Heap} {locs : List Loc} {cells slots : Nat} {Q : State → Prop} {ls : Array Slot} {A : Nat → Prop} {t b L a : Nat} {xs : Nat → Int32} {D : va_G} {h0 h1 o0 m0 m1 m2 : Nat} {cJ cO cK cI : ClassId} {f g : Nat → Int64} {u : mS} (hnt : l.stackTraces = false) (S : CallFix p m c code 8 s args lw_tbl RL) (hE : gE t A s s.heap) (hS : va_S A s.heap H locs) (hA : ∀ q, s.heap.size ≤ q → A q) (hP : va_P D vwCl (wA h0 h1 o0 m0 m1 m2 cJ cO cK cI f g u) H) (hK : va_K D vwCl [(cJ, .long), (cO, .long), (cK, .long), (cI, .int)] s) (hD : va_D A (wA h0 h1 o0 m0 m1 m2 cJ cO cK cI f g u)) (hX : va_X b L xs s s.heap) (hbl : b < s.heap.size) (hbA : ¬ A b) (hB : gBs f) (hu : u.2.1 = f) (hi : a + 5 ≤ L) (hL : L ≤ 2560) (hc1 : cells + 1 ≤ 1040) (hs1 : slots + 6 ≤ 8297) (hl : lv_has ls 8 [(0, .ref b), (1, .ref h0), (2, .ref m0), (3, .ref o0), (4, .int (nI a))])
    (kk : ∀ (f' g' : Nat → Int64) (u' : mS) (H : Heap) (locs : List Loc) (ls : Array Slot), gBs f' → u'.2.1 = f' → va_P D vwCl (wA h0 h1 o0 m0 m1 m2 cJ cO cK cI f' g' u') H → va_D A (wA h0 h1 o0 m0 m1 m2 cJ cO cK cI f' g' u') → va_S A s.heap H locs → lv_has ls 8 [(0, .ref b), (1, .ref h0), (2, .ref m0), (3, .ref o0), (4, .int (nI a))] → W p l e room_1 s m args below meth c H locs (cells + 1) (slots + 6) Q (F0 m 606 ls [])) :
    W p l e room_1 s m args below meth c H locs cells slots Q (F0 m 80 ls []) := by
  obtain ⟨hx, hb, hml, hown, hts⟩ := id S
  have hs : ∀ w ∈ gws, w ∈ lw_tbl := fun w h => gws_tbl h
  refine lv_aload_n hx hb dL_law_80 rfl (lv_at hl 1 rfl) ?_
  refine lv_aload_n hx hb dL_law_81 rfl (lv_at hl 0 rfl) ?_
  refine lv_iload hx hb dL_law_82 (lv_at hl 4 rfl) ?_
  refine lv_iconst (v := 1) hx hb dL_law_84 (by decide) ?_
  refine lv_iadd hx hb dL_law_85 ?_
  refine va_sld hx hb hX hbl hbA hS (six (k := 1) (by decide) (by omega) hL) dL_law_86 ?_
  refine lv_aload_n hx hb dL_law_87 rfl (lv_at hl 0 rfl) ?_
  refine lv_iload hx hb dL_law_88 (lv_at hl 4 rfl) ?_
  refine lv_iconst (v := 2) hx hb dL_law_90 (by decide) ?_
  refine lv_iadd hx hb dL_law_91 ?_
  refine va_sld hx hb hX hbl hbA hS (six (k := 2) (by decide) (by omega) hL) dL_law_92 ?_
  refine lv_i2l hx hb dL_law_93 rfl ?_
  refine lv_bipush (v := 32) hx hb dL_law_94 (by decide) ?_
  refine lv_lshl hx hb dL_law_96 rfl ?_
  refine lv_aload_n hx hb dL_law_97 rfl (lv_at hl 0 rfl) ?_
  refine lv_iload hx hb dL_law_98 (lv_at hl 4 rfl) ?_
  refine lv_iconst (v := 3) hx hb dL_law_100 (by decide) ?_
  refine lv_iadd hx hb dL_law_101 ?_
  refine va_sld hx hb hX hbl hbA hS (six (k := 3) (by decide) (by omega) hL) dL_law_102 ?_
  refine lv_i2l hx hb dL_law_103 rfl ?_
  refine lv_ldc2 hx hb hown (hts _ (hs _ kl_L_45)) dL_law_104 ?_
  refine lv_land hx hb dL_law_107 ?_
  refine lv_lor hx hb dL_law_108 ?_
  refine lv_aload_n hx hb dL_law_109 rfl (lv_at hl 3 rfl) ?_
  refine g_callL S hs (tL_set l hnt t D h0 h1 o0 cJ cO f g (xs ((nI a) + (1 : Int32)).toNatClampNeg) ((((xs ((nI a) + (2 : Int32)).toNatClampNeg).toInt64) <<< ((32 : Int32).toInt64 &&& 63)) ||| (((xs ((nI a) + (3 : Int32)).toNatClampNeg).toInt64) &&& (4294967295 : Int64)))) ml_L_47 st_yL_set in_L cd_yL_set hd_yL_set ⟨by decide, by decide⟩ hE hS hA hP hK hD hl.1 rfl (Nat.le_of_ble_eq_true rfl) ⟨by show cells + 1 ≤ 1040; omega, by show slots + 6 ≤ 8297; omega⟩ dL_law_110 (fun k9 f9 g9 H locs hres hP hD hS => ?_)
  refine lv_istore (lv' := [(5, .int k9), (0, .ref b), (1, .ref h0), (2, .ref m0), (3, .ref o0), (4, .int (nI a))]) hx hb dL_law_113 hl (by decide) rfl (fun ls hl => ?_)
  refine lv_aload_n hx hb dL_law_115 rfl (lv_at hl 3 rfl) ?_
  refine lv_aload_n hx hb dL_law_116 rfl (lv_at hl 1 rfl) ?_
  refine lv_iload hx hb dL_law_117 (lv_at hl 5 rfl) ?_
  refine lv_iconst (v := 1) hx hb dL_law_119 (by decide) ?_
  refine lv_iadd hx hb dL_law_120 ?_
  refine va_sld hx hb hX hbl hbA hS (six (k := 1) (by decide) (by omega) hL) dL_law_121 ?_
  refine lv_aload_n hx hb dL_law_122 rfl (lv_at hl 1 rfl) ?_
  refine lv_iload hx hb dL_law_123 (lv_at hl 5 rfl) ?_
  refine lv_iconst (v := 2) hx hb dL_law_125 (by decide) ?_
  refine lv_iadd hx hb dL_law_126 ?_
  refine va_sld hx hb hX hbl hbA hS (six (k := 2) (by decide) (by omega) hL) dL_law_127 ?_
  refine lv_i2l hx hb dL_law_128 rfl ?_
  refine lv_bipush (v := 32) hx hb dL_law_129 (by decide) ?_
  refine lv_lshl hx hb dL_law_131 rfl ?_
  refine lv_aload_n hx hb dL_law_132 rfl (lv_at hl 1 rfl) ?_
  refine lv_iload hx hb dL_law_133 (lv_at hl 5 rfl) ?_
  refine lv_iconst (v := 3) hx hb dL_law_135 (by decide) ?_
  refine lv_iadd hx hb dL_law_136 ?_
  refine va_sld hx hb hX hbl hbA hS (six (k := 3) (by decide) (by omega) hL) dL_law_137 ?_
  refine lv_i2l hx hb dL_law_138 rfl ?_
  refine lv_ldc2 hx hb hown (hts _ (hs _ kl_L_45)) dL_law_139 ?_
  refine lv_land hx hb dL_law_142 ?_
  refine lv_lor hx hb dL_law_143 ?_
  refine g_callAl S hs (tX1_set l t D m0 m1 m2 cK cI u (xs ((nI a) + (1 : Int32)).toNatClampNeg) ((((xs ((nI a) + (2 : Int32)).toNatClampNeg).toInt64) <<< ((32 : Int32).toInt64 &&& 63)) ||| (((xs ((nI a) + (3 : Int32)).toNatClampNeg).toInt64) &&& (4294967295 : Int64)))) rfl ml_L_52 im_yX1_set se_yX1_set cd_yX1_set hd_yX1_set ⟨by decide, by decide⟩ hE hS hA hP hK hD hl.1 rfl (Nat.le_of_ble_eq_true rfl) ⟨by show cells + 1 + 0 ≤ 1040; omega, by show slots + 6 + 0 ≤ 8297; omega⟩ dL_law_144 (fun z9 u9 H locs hz9 hP hD hS => ?_)
  have hag : gAg (jset f (xs ((nI a) + (1 : Int32)).toNatClampNeg) ((((xs ((nI a) + (2 : Int32)).toNatClampNeg).toInt64) <<< ((32 : Int32).toInt64 &&& 63)) ||| (((xs ((nI a) + (3 : Int32)).toNatClampNeg).toInt64) &&& (4294967295 : Int64)))) cod1 f z9 u9 := by rw [hz9.1, hz9.2, ← hu]; exact ag_set u (xs ((nI a) + (1 : Int32)).toNatClampNeg) ((((xs ((nI a) + (2 : Int32)).toNatClampNeg).toInt64) <<< ((32 : Int32).toInt64 &&& 63)) ||| (((xs ((nI a) + (3 : Int32)).toNatClampNeg).toInt64) &&& (4294967295 : Int64))) (by rw [hu]; exact hB)
  obtain ⟨a1, a2, a3, a4⟩ := gRes_k hres hag hB
  refine lv_lstore (lv' := [(6, .long z9), (5, .int k9), (0, .ref b), (1, .ref h0), (2, .ref m0), (3, .ref o0), (4, .int (nI a))]) hx hb dL_law_147 hl (by decide) rfl (fun ls hl => ?_)
  refine lv_aload_n hx hb dL_law_149 rfl (lv_at hl 4 rfl) ?_
  refine g_callAi S hs (tX1_thrown l t D m0 m1 m2 cK cI u9) rfl ml_L_53 im_yX1_thrown se_yX1_thrown cd_yX1_thrown hd_yX1_thrown ⟨by decide, by decide⟩ hE hS hA hP hK hD hl.1 rfl (Nat.le_of_ble_eq_true rfl) ⟨by show cells + 1 + 0 ≤ 1040; omega, by show slots + 6 + 0 ≤ 8297; omega⟩ dL_law_150 (fun r9 u8 H locs hr9 hP hD hS => ?_)
  obtain ⟨hr8, hu8⟩ := hr9
  rw [show u8 = u9 from hu8] at hP hD
  rw [hr8]
  have hP : va_P D vwCl (wA h0 h1 o0 m0 m1 m2 cJ cO cK cI f9 g9 u9) H := hP
  have hD : va_D A (wA h0 h1 o0 m0 m1 m2 cJ cO cK cI f9 g9 u9) := hD
  refine lv_iload hx hb dL_law_153 (lv_at hl 1 rfl) ?_
  refine lv_icmp_eq (tgt := 160) hx hb dL_law_155 (by decide) (fun _ => ?_) (fun c_1 => absurd (show (kthrown u9).1 = k9 from a1) c_1)
  refine lv_iload hx hb dL_law_160 (lv_at hl 1 rfl) ?_
  have fin : ∀ (H : Heap) (locs : List Loc), va_P D vwCl (wA h0 h1 o0 m0 m1 m2 cJ cO cK cI f9 g9 u9) H → va_S A s.heap H locs → W p l e room_1 s m args below meth c H locs (cells + 1) (slots + 6) Q (F0 m 176 ls []) := fun H locs hP hS => lv_goto (tgt := 606) hx hb dL_law_176 (by decide) (kk f9 g9 u9 H locs ls a4 a3 hP hD hS (lv_sub hl [2, 3, 4, 5, 6] rfl))
  refine lv_if_ne (tgt := 176) hx hb dL_law_162 (by decide) (fun _ => fin H locs hP hS) (fun c_2 => ?_)
  refine lv_aload_n hx hb dL_law_165 rfl (lv_at hl 5 rfl) ?_
  refine lv_iconst (v := 0) hx hb dL_law_166 (by decide) ?_
  refine va_lald hx hb hK hP 2 1 rfl rfl (by unfold vp_in; decide) dL_law_167 ?_
  refine lv_lload hx hb dL_law_168 (lv_at hl 0 rfl) ?_
  refine g_lc_eq (tgt := 176) hx hb dL_law_170 dL_law_171 (by decide) (fun _ => fin H locs hP hS) (fun c_3 => absurd (by rw [sb_cl0]; exact a2 c_2) c_3)
set_option maxHeartbeats 4000000 in
set_option maxRecDepth 100000 in
theorem lc_get {p : Program} {l : Launch} {e : Env} {s : State} {m : MethodId} {args : Array Value} {below : List Frame} {meth : Method} {c : Code} {H : Heap} {locs : List Loc} {cells slots : Nat} {Q : State → Prop} {ls : Array Slot} {A : Nat → Prop} {t b L a : Nat} {xs : Nat → Int32} {D : va_G} {h0 h1 o0 m0 m1 m2 : Nat} {cJ cO cK cI : ClassId} {f g : Nat → Int64} {u : mS} (hnt : l.stackTraces = false) (S : CallFix p m c code 8 s args lw_tbl RL) (hE : gE t A s s.heap) (hS : va_S A s.heap H locs) (hA : ∀ q, s.heap.size ≤ q → A q) (hP : va_P D vwCl (wA h0 h1 o0 m0 m1 m2 cJ cO cK cI f g u) H) (hK : va_K D vwCl [(cJ, .long), (cO, .long), (cK, .long), (cI, .int)] s) (hD : va_D A (wA h0 h1 o0 m0 m1 m2 cJ cO cK cI f g u)) (hX : va_X b L xs s s.heap) (hbl : b < s.heap.size) (hbA : ¬ A b) (hB : gBs f) (hu : u.2.1 = f) (hi : a + 5 ≤ L) (hL : L ≤ 2560) (hc1 : cells + 1 ≤ 1040) (hs1 : slots + 6 ≤ 8297) (hl : lv_has ls 8 [(0, .ref b), (1, .ref h0), (2, .ref m0), (3, .ref o0), (4, .int (nI a))])
    (kk : ∀ (f' g' : Nat → Int64) (u' : mS) (H : Heap) (locs : List Loc) (ls : Array Slot), gBs f' → u'.2.1 = f' → va_P D vwCl (wA h0 h1 o0 m0 m1 m2 cJ cO cK cI f' g' u') H → va_D A (wA h0 h1 o0 m0 m1 m2 cJ cO cK cI f' g' u') → va_S A s.heap H locs → lv_has ls 8 [(0, .ref b), (1, .ref h0), (2, .ref m0), (3, .ref o0), (4, .int (nI a))] → W p l e room_1 s m args below meth c H locs (cells + 1) (slots + 6) Q (F0 m 606 ls [])) :
    W p l e room_1 s m args below meth c H locs cells slots Q (F0 m 179 ls []) := by
  obtain ⟨hx, hb, hml, hown, hts⟩ := id S
  have hs : ∀ w ∈ gws, w ∈ lw_tbl := fun w h => gws_tbl h
  refine lv_aload_n hx hb dL_law_179 rfl (lv_at hl 1 rfl) ?_
  refine lv_aload_n hx hb dL_law_180 rfl (lv_at hl 0 rfl) ?_
  refine lv_iload hx hb dL_law_181 (lv_at hl 4 rfl) ?_
  refine lv_iconst (v := 1) hx hb dL_law_183 (by decide) ?_
  refine lv_iadd hx hb dL_law_184 ?_
  refine va_sld hx hb hX hbl hbA hS (six (k := 1) (by decide) (by omega) hL) dL_law_185 ?_
  refine lv_aload_n hx hb dL_law_186 rfl (lv_at hl 3 rfl) ?_
  refine g_callL S hs (tL_get l hnt t D h0 h1 o0 cJ cO f g (xs ((nI a) + (1 : Int32)).toNatClampNeg)) ml_L_57 st_yL_get in_L cd_yL_get hd_yL_get ⟨by decide, by decide⟩ hE hS hA hP hK hD hl.1 rfl (Nat.le_of_ble_eq_true rfl) ⟨by show cells + 1 ≤ 1040; omega, by show slots + 6 ≤ 8297; omega⟩ dL_law_187 (fun k9 f9 g9 H locs hres hP hD hS => ?_)
  refine lv_istore (lv' := [(5, .int k9), (0, .ref b), (1, .ref h0), (2, .ref m0), (3, .ref o0), (4, .int (nI a))]) hx hb dL_law_190 hl (by decide) rfl (fun ls hl => ?_)
  refine lv_aload_n hx hb dL_law_192 rfl (lv_at hl 3 rfl) ?_
  refine lv_aload_n hx hb dL_law_193 rfl (lv_at hl 1 rfl) ?_
  refine lv_iload hx hb dL_law_194 (lv_at hl 5 rfl) ?_
  refine lv_iconst (v := 1) hx hb dL_law_196 (by decide) ?_
  refine lv_iadd hx hb dL_law_197 ?_
  refine va_sld hx hb hX hbl hbA hS (six (k := 1) (by decide) (by omega) hL) dL_law_198 ?_
  refine g_callAl S hs (tX1_get l t D m0 m1 m2 cK cI u (xs ((nI a) + (1 : Int32)).toNatClampNeg)) rfl ml_L_60 im_yX1_get se_yX1_get cd_yX1_get hd_yX1_get ⟨by decide, by decide⟩ hE hS hA hP hK hD hl.1 rfl (Nat.le_of_ble_eq_true rfl) ⟨by show cells + 1 + 0 ≤ 1040; omega, by show slots + 6 + 0 ≤ 8297; omega⟩ dL_law_199 (fun z9 u9 H locs hz9 hP hD hS => ?_)
  have hag : gAg (jget f (xs ((nI a) + (1 : Int32)).toNatClampNeg)) cod1 f z9 u9 := by rw [hz9.1, hz9.2, ← hu]; exact ag_get u (xs ((nI a) + (1 : Int32)).toNatClampNeg) (by rw [hu]; exact hB)
  obtain ⟨a1, a2, a3, a4⟩ := gRes_k hres hag hB
  refine lv_lstore (lv' := [(6, .long z9), (5, .int k9), (0, .ref b), (1, .ref h0), (2, .ref m0), (3, .ref o0), (4, .int (nI a))]) hx hb dL_law_202 hl (by decide) rfl (fun ls hl => ?_)
  refine lv_aload_n hx hb dL_law_204 rfl (lv_at hl 4 rfl) ?_
  refine g_callAi S hs (tX1_thrown l t D m0 m1 m2 cK cI u9) rfl ml_L_53 im_yX1_thrown se_yX1_thrown cd_yX1_thrown hd_yX1_thrown ⟨by decide, by decide⟩ hE hS hA hP hK hD hl.1 rfl (Nat.le_of_ble_eq_true rfl) ⟨by show cells + 1 + 0 ≤ 1040; omega, by show slots + 6 + 0 ≤ 8297; omega⟩ dL_law_205 (fun r9 u8 H locs hr9 hP hD hS => ?_)
  obtain ⟨hr8, hu8⟩ := hr9
  rw [show u8 = u9 from hu8] at hP hD
  rw [hr8]
  have hP : va_P D vwCl (wA h0 h1 o0 m0 m1 m2 cJ cO cK cI f9 g9 u9) H := hP
  have hD : va_D A (wA h0 h1 o0 m0 m1 m2 cJ cO cK cI f9 g9 u9) := hD
  refine lv_iload hx hb dL_law_208 (lv_at hl 1 rfl) ?_
  refine lv_icmp_eq (tgt := 215) hx hb dL_law_210 (by decide) (fun _ => ?_) (fun c_1 => absurd (show (kthrown u9).1 = k9 from a1) c_1)
  refine lv_iload hx hb dL_law_215 (lv_at hl 1 rfl) ?_
  have fin : ∀ (H : Heap) (locs : List Loc), va_P D vwCl (wA h0 h1 o0 m0 m1 m2 cJ cO cK cI f9 g9 u9) H → va_S A s.heap H locs → W p l e room_1 s m args below meth c H locs (cells + 1) (slots + 6) Q (F0 m 231 ls []) := fun H locs hP hS => lv_goto (tgt := 606) hx hb dL_law_231 (by decide) (kk f9 g9 u9 H locs ls a4 a3 hP hD hS (lv_sub hl [2, 3, 4, 5, 6] rfl))
  refine lv_if_ne (tgt := 231) hx hb dL_law_217 (by decide) (fun _ => fin H locs hP hS) (fun c_2 => ?_)
  refine lv_aload_n hx hb dL_law_220 rfl (lv_at hl 5 rfl) ?_
  refine lv_iconst (v := 0) hx hb dL_law_221 (by decide) ?_
  refine va_lald hx hb hK hP 2 1 rfl rfl (by unfold vp_in; decide) dL_law_222 ?_
  refine lv_lload hx hb dL_law_223 (lv_at hl 0 rfl) ?_
  refine g_lc_eq (tgt := 231) hx hb dL_law_225 dL_law_226 (by decide) (fun _ => fin H locs hP hS) (fun c_3 => absurd (by rw [sb_cl0]; exact a2 c_2) c_3)
set_option maxHeartbeats 4000000 in
set_option maxRecDepth 100000 in
theorem lc_reckon {p : Program} {l : Launch} {e : Env} {s : State} {m : MethodId} {args : Array Value} {below : List Frame} {meth : Method} {c : Code} {H : Heap} {locs : List Loc} {cells slots : Nat} {Q : State → Prop} {ls : Array Slot} {A : Nat → Prop} {t b L a : Nat} {xs : Nat → Int32} {D : va_G} {h0 h1 o0 m0 m1 m2 : Nat} {cJ cO cK cI : ClassId} {f g : Nat → Int64} {u : mS} (hnt : l.stackTraces = false) (S : CallFix p m c code 8 s args lw_tbl RL) (hE : gE t A s s.heap) (hS : va_S A s.heap H locs) (hA : ∀ q, s.heap.size ≤ q → A q) (hP : va_P D vwCl (wA h0 h1 o0 m0 m1 m2 cJ cO cK cI f g u) H) (hK : va_K D vwCl [(cJ, .long), (cO, .long), (cK, .long), (cI, .int)] s) (hD : va_D A (wA h0 h1 o0 m0 m1 m2 cJ cO cK cI f g u)) (hX : va_X b L xs s s.heap) (hbl : b < s.heap.size) (hbA : ¬ A b) (hB : gBs f) (hu : u.2.1 = f) (hi : a + 5 ≤ L) (hL : L ≤ 2560) (hc1 : cells + 1 ≤ 1040) (hs1 : slots + 6 ≤ 8297) (hl : lv_has ls 8 [(0, .ref b), (1, .ref h0), (2, .ref m0), (3, .ref o0), (4, .int (nI a))])
    (kk : ∀ (f' g' : Nat → Int64) (u' : mS) (H : Heap) (locs : List Loc) (ls : Array Slot), gBs f' → u'.2.1 = f' → va_P D vwCl (wA h0 h1 o0 m0 m1 m2 cJ cO cK cI f' g' u') H → va_D A (wA h0 h1 o0 m0 m1 m2 cJ cO cK cI f' g' u') → va_S A s.heap H locs → lv_has ls 8 [(0, .ref b), (1, .ref h0), (2, .ref m0), (3, .ref o0), (4, .int (nI a))] → W p l e room_1 s m args below meth c H locs (cells + 1) (slots + 6) Q (F0 m 606 ls [])) :
    W p l e room_1 s m args below meth c H locs cells slots Q (F0 m 234 ls []) := by
  obtain ⟨hx, hb, hml, hown, hts⟩ := id S
  have hs : ∀ w ∈ gws, w ∈ lw_tbl := fun w h => gws_tbl h
  refine lv_aload_n hx hb dL_law_234 rfl (lv_at hl 1 rfl) ?_
  refine lv_aload_n hx hb dL_law_235 rfl (lv_at hl 0 rfl) ?_
  refine lv_iload hx hb dL_law_236 (lv_at hl 4 rfl) ?_
  refine lv_iconst (v := 1) hx hb dL_law_238 (by decide) ?_
  refine lv_iadd hx hb dL_law_239 ?_
  refine va_sld hx hb hX hbl hbA hS (six (k := 1) (by decide) (by omega) hL) dL_law_240 ?_
  refine lv_aload_n hx hb dL_law_241 rfl (lv_at hl 0 rfl) ?_
  refine lv_iload hx hb dL_law_242 (lv_at hl 4 rfl) ?_
  refine lv_iconst (v := 2) hx hb dL_law_244 (by decide) ?_
  refine lv_iadd hx hb dL_law_245 ?_
  refine va_sld hx hb hX hbl hbA hS (six (k := 2) (by decide) (by omega) hL) dL_law_246 ?_
  refine lv_aload_n hx hb dL_law_247 rfl (lv_at hl 0 rfl) ?_
  refine lv_iload hx hb dL_law_248 (lv_at hl 4 rfl) ?_
  refine lv_iconst (v := 3) hx hb dL_law_250 (by decide) ?_
  refine lv_iadd hx hb dL_law_251 ?_
  refine va_sld hx hb hX hbl hbA hS (six (k := 3) (by decide) (by omega) hL) dL_law_252 ?_
  refine lv_aload_n hx hb dL_law_253 rfl (lv_at hl 0 rfl) ?_
  refine lv_iload hx hb dL_law_254 (lv_at hl 4 rfl) ?_
  refine lv_iconst (v := 4) hx hb dL_law_256 (by decide) ?_
  refine lv_iadd hx hb dL_law_257 ?_
  refine va_sld hx hb hX hbl hbA hS (six (k := 4) (by decide) (by omega) hL) dL_law_258 ?_
  refine lv_aload_n hx hb dL_law_259 rfl (lv_at hl 3 rfl) ?_
  refine g_callL S hs (tL_reckon l hnt t D h0 h1 o0 cJ cO f g (xs ((nI a) + (1 : Int32)).toNatClampNeg) (xs ((nI a) + (2 : Int32)).toNatClampNeg) (xs ((nI a) + (3 : Int32)).toNatClampNeg) (xs ((nI a) + (4 : Int32)).toNatClampNeg)) ml_L_61 st_yL_reckon in_L cd_yL_reckon hd_yL_reckon ⟨by decide, by decide⟩ hE hS hA hP hK hD hl.1 rfl (Nat.le_of_ble_eq_true rfl) ⟨by show cells + 1 ≤ 1040; omega, by show slots + 6 ≤ 8297; omega⟩ dL_law_260 (fun k9 f9 g9 H locs hres hP hD hS => ?_)
  refine lv_istore (lv' := [(5, .int k9), (0, .ref b), (1, .ref h0), (2, .ref m0), (3, .ref o0), (4, .int (nI a))]) hx hb dL_law_263 hl (by decide) rfl (fun ls hl => ?_)
  refine lv_aload_n hx hb dL_law_265 rfl (lv_at hl 3 rfl) ?_
  refine lv_aload_n hx hb dL_law_266 rfl (lv_at hl 1 rfl) ?_
  refine lv_iload hx hb dL_law_267 (lv_at hl 5 rfl) ?_
  refine lv_iconst (v := 1) hx hb dL_law_269 (by decide) ?_
  refine lv_iadd hx hb dL_law_270 ?_
  refine va_sld hx hb hX hbl hbA hS (six (k := 1) (by decide) (by omega) hL) dL_law_271 ?_
  refine lv_aload_n hx hb dL_law_272 rfl (lv_at hl 1 rfl) ?_
  refine lv_iload hx hb dL_law_273 (lv_at hl 5 rfl) ?_
  refine lv_iconst (v := 2) hx hb dL_law_275 (by decide) ?_
  refine lv_iadd hx hb dL_law_276 ?_
  refine va_sld hx hb hX hbl hbA hS (six (k := 2) (by decide) (by omega) hL) dL_law_277 ?_
  refine lv_aload_n hx hb dL_law_278 rfl (lv_at hl 1 rfl) ?_
  refine lv_iload hx hb dL_law_279 (lv_at hl 5 rfl) ?_
  refine lv_iconst (v := 3) hx hb dL_law_281 (by decide) ?_
  refine lv_iadd hx hb dL_law_282 ?_
  refine va_sld hx hb hX hbl hbA hS (six (k := 3) (by decide) (by omega) hL) dL_law_283 ?_
  refine lv_aload_n hx hb dL_law_284 rfl (lv_at hl 1 rfl) ?_
  refine lv_iload hx hb dL_law_285 (lv_at hl 5 rfl) ?_
  refine lv_iconst (v := 4) hx hb dL_law_287 (by decide) ?_
  refine lv_iadd hx hb dL_law_288 ?_
  refine va_sld hx hb hX hbl hbA hS (six (k := 4) (by decide) (by omega) hL) dL_law_289 ?_
  refine g_callAl S hs (tX1_reckon l t D m0 m1 m2 cK cI u (xs ((nI a) + (1 : Int32)).toNatClampNeg) (xs ((nI a) + (2 : Int32)).toNatClampNeg) (xs ((nI a) + (3 : Int32)).toNatClampNeg) (xs ((nI a) + (4 : Int32)).toNatClampNeg)) rfl ml_L_64 im_yX1_reckon se_yX1_reckon cd_yX1_reckon hd_yX1_reckon ⟨by decide, by decide⟩ hE hS hA hP hK hD hl.1 rfl (Nat.le_of_ble_eq_true rfl) ⟨by show cells + 1 + 0 ≤ 1040; omega, by show slots + 6 + 0 ≤ 8297; omega⟩ dL_law_290 (fun z9 u9 H locs hz9 hP hD hS => ?_)
  have hag : gAg (jreckon f (xs ((nI a) + (1 : Int32)).toNatClampNeg) (xs ((nI a) + (2 : Int32)).toNatClampNeg) (xs ((nI a) + (3 : Int32)).toNatClampNeg) (xs ((nI a) + (4 : Int32)).toNatClampNeg)) cod3 f z9 u9 := by rw [hz9.1, hz9.2, ← hu]; exact ag_reckon u (xs ((nI a) + (1 : Int32)).toNatClampNeg) (xs ((nI a) + (2 : Int32)).toNatClampNeg) (xs ((nI a) + (3 : Int32)).toNatClampNeg) (xs ((nI a) + (4 : Int32)).toNatClampNeg) (by rw [hu]; exact hB)
  obtain ⟨a1, a2, a3, a4⟩ := gRes_k hres hag hB
  refine lv_lstore (lv' := [(6, .long z9), (5, .int k9), (0, .ref b), (1, .ref h0), (2, .ref m0), (3, .ref o0), (4, .int (nI a))]) hx hb dL_law_293 hl (by decide) rfl (fun ls hl => ?_)
  refine lv_aload_n hx hb dL_law_295 rfl (lv_at hl 4 rfl) ?_
  refine g_callAi S hs (tX1_thrown l t D m0 m1 m2 cK cI u9) rfl ml_L_53 im_yX1_thrown se_yX1_thrown cd_yX1_thrown hd_yX1_thrown ⟨by decide, by decide⟩ hE hS hA hP hK hD hl.1 rfl (Nat.le_of_ble_eq_true rfl) ⟨by show cells + 1 + 0 ≤ 1040; omega, by show slots + 6 + 0 ≤ 8297; omega⟩ dL_law_296 (fun r9 u8 H locs hr9 hP hD hS => ?_)
  obtain ⟨hr8, hu8⟩ := hr9
  rw [show u8 = u9 from hu8] at hP hD
  rw [hr8]
  have hP : va_P D vwCl (wA h0 h1 o0 m0 m1 m2 cJ cO cK cI f9 g9 u9) H := hP
  have hD : va_D A (wA h0 h1 o0 m0 m1 m2 cJ cO cK cI f9 g9 u9) := hD
  refine lv_iload hx hb dL_law_299 (lv_at hl 1 rfl) ?_
  refine lv_icmp_eq (tgt := 306) hx hb dL_law_301 (by decide) (fun _ => ?_) (fun c_1 => absurd (show (kthrown u9).1 = k9 from a1) c_1)
  refine lv_iload hx hb dL_law_306 (lv_at hl 1 rfl) ?_
  have fin : ∀ (H : Heap) (locs : List Loc), va_P D vwCl (wA h0 h1 o0 m0 m1 m2 cJ cO cK cI f9 g9 u9) H → va_S A s.heap H locs → W p l e room_1 s m args below meth c H locs (cells + 1) (slots + 6) Q (F0 m 322 ls []) := fun H locs hP hS => lv_goto (tgt := 606) hx hb dL_law_322 (by decide) (kk f9 g9 u9 H locs ls a4 a3 hP hD hS (lv_sub hl [2, 3, 4, 5, 6] rfl))
  refine lv_if_ne (tgt := 322) hx hb dL_law_308 (by decide) (fun _ => fin H locs hP hS) (fun c_2 => ?_)
  refine lv_aload_n hx hb dL_law_311 rfl (lv_at hl 5 rfl) ?_
  refine lv_iconst (v := 0) hx hb dL_law_312 (by decide) ?_
  refine va_lald hx hb hK hP 2 1 rfl rfl (by unfold vp_in; decide) dL_law_313 ?_
  refine lv_lload hx hb dL_law_314 (lv_at hl 0 rfl) ?_
  refine g_lc_eq (tgt := 322) hx hb dL_law_316 dL_law_317 (by decide) (fun _ => fin H locs hP hS) (fun c_3 => absurd (by rw [sb_cl0]; exact a2 c_2) c_3)
set_option maxHeartbeats 4000000 in
set_option maxRecDepth 100000 in
theorem lc_turn {p : Program} {l : Launch} {e : Env} {s : State} {m : MethodId} {args : Array Value} {below : List Frame} {meth : Method} {c : Code} {H : Heap} {locs : List Loc} {cells slots : Nat} {Q : State → Prop} {ls : Array Slot} {A : Nat → Prop} {t b L a : Nat} {xs : Nat → Int32} {D : va_G} {h0 h1 o0 m0 m1 m2 : Nat} {cJ cO cK cI : ClassId} {f g : Nat → Int64} {u : mS} (hnt : l.stackTraces = false) (S : CallFix p m c code 8 s args lw_tbl RL) (hE : gE t A s s.heap) (hS : va_S A s.heap H locs) (hA : ∀ q, s.heap.size ≤ q → A q) (hP : va_P D vwCl (wA h0 h1 o0 m0 m1 m2 cJ cO cK cI f g u) H) (hK : va_K D vwCl [(cJ, .long), (cO, .long), (cK, .long), (cI, .int)] s) (hD : va_D A (wA h0 h1 o0 m0 m1 m2 cJ cO cK cI f g u)) (hX : va_X b L xs s s.heap) (hbl : b < s.heap.size) (hbA : ¬ A b) (hB : gBs f) (hu : u.2.1 = f) (hi : a + 5 ≤ L) (hL : L ≤ 2560) (hc1 : cells + 1 ≤ 1040) (hs1 : slots + 6 ≤ 8297) (hl : lv_has ls 8 [(0, .ref b), (1, .ref h0), (2, .ref m0), (3, .ref o0), (4, .int (nI a))])
    (kk : ∀ (f' g' : Nat → Int64) (u' : mS) (H : Heap) (locs : List Loc) (ls : Array Slot), gBs f' → u'.2.1 = f' → va_P D vwCl (wA h0 h1 o0 m0 m1 m2 cJ cO cK cI f' g' u') H → va_D A (wA h0 h1 o0 m0 m1 m2 cJ cO cK cI f' g' u') → va_S A s.heap H locs → lv_has ls 8 [(0, .ref b), (1, .ref h0), (2, .ref m0), (3, .ref o0), (4, .int (nI a))] → W p l e room_1 s m args below meth c H locs (cells + 1) (slots + 6) Q (F0 m 606 ls [])) :
    W p l e room_1 s m args below meth c H locs cells slots Q (F0 m 325 ls []) := by
  obtain ⟨hx, hb, hml, hown, hts⟩ := id S
  have hs : ∀ w ∈ gws, w ∈ lw_tbl := fun w h => gws_tbl h
  refine lv_aload_n hx hb dL_law_325 rfl (lv_at hl 1 rfl) ?_
  refine lv_aload_n hx hb dL_law_326 rfl (lv_at hl 0 rfl) ?_
  refine lv_iload hx hb dL_law_327 (lv_at hl 4 rfl) ?_
  refine lv_iconst (v := 1) hx hb dL_law_329 (by decide) ?_
  refine lv_iadd hx hb dL_law_330 ?_
  refine va_sld hx hb hX hbl hbA hS (six (k := 1) (by decide) (by omega) hL) dL_law_331 ?_
  refine lv_aload_n hx hb dL_law_332 rfl (lv_at hl 0 rfl) ?_
  refine lv_iload hx hb dL_law_333 (lv_at hl 4 rfl) ?_
  refine lv_iconst (v := 2) hx hb dL_law_335 (by decide) ?_
  refine lv_iadd hx hb dL_law_336 ?_
  refine va_sld hx hb hX hbl hbA hS (six (k := 2) (by decide) (by omega) hL) dL_law_337 ?_
  refine lv_aload_n hx hb dL_law_338 rfl (lv_at hl 0 rfl) ?_
  refine lv_iload hx hb dL_law_339 (lv_at hl 4 rfl) ?_
  refine lv_iconst (v := 3) hx hb dL_law_341 (by decide) ?_
  refine lv_iadd hx hb dL_law_342 ?_
  refine va_sld hx hb hX hbl hbA hS (six (k := 3) (by decide) (by omega) hL) dL_law_343 ?_
  refine lv_aload_n hx hb dL_law_344 rfl (lv_at hl 3 rfl) ?_
  refine g_callL S hs (tL_turn l hnt t D h0 h1 o0 cJ cO f g (xs ((nI a) + (1 : Int32)).toNatClampNeg) (xs ((nI a) + (2 : Int32)).toNatClampNeg) (xs ((nI a) + (3 : Int32)).toNatClampNeg)) ml_L_65 st_yL_turn in_L cd_yL_turn hd_yL_turn ⟨by decide, by decide⟩ hE hS hA hP hK hD hl.1 rfl (Nat.le_of_ble_eq_true rfl) ⟨by show cells + 1 ≤ 1040; omega, by show slots + 6 ≤ 8297; omega⟩ dL_law_345 (fun k9 f9 g9 H locs hres hP hD hS => ?_)
  refine lv_istore (lv' := [(5, .int k9), (0, .ref b), (1, .ref h0), (2, .ref m0), (3, .ref o0), (4, .int (nI a))]) hx hb dL_law_348 hl (by decide) rfl (fun ls hl => ?_)
  refine lv_aload_n hx hb dL_law_350 rfl (lv_at hl 3 rfl) ?_
  refine lv_aload_n hx hb dL_law_351 rfl (lv_at hl 1 rfl) ?_
  refine lv_iload hx hb dL_law_352 (lv_at hl 5 rfl) ?_
  refine lv_iconst (v := 1) hx hb dL_law_354 (by decide) ?_
  refine lv_iadd hx hb dL_law_355 ?_
  refine va_sld hx hb hX hbl hbA hS (six (k := 1) (by decide) (by omega) hL) dL_law_356 ?_
  refine lv_aload_n hx hb dL_law_357 rfl (lv_at hl 1 rfl) ?_
  refine lv_iload hx hb dL_law_358 (lv_at hl 5 rfl) ?_
  refine lv_iconst (v := 2) hx hb dL_law_360 (by decide) ?_
  refine lv_iadd hx hb dL_law_361 ?_
  refine va_sld hx hb hX hbl hbA hS (six (k := 2) (by decide) (by omega) hL) dL_law_362 ?_
  refine lv_aload_n hx hb dL_law_363 rfl (lv_at hl 1 rfl) ?_
  refine lv_iload hx hb dL_law_364 (lv_at hl 5 rfl) ?_
  refine lv_iconst (v := 3) hx hb dL_law_366 (by decide) ?_
  refine lv_iadd hx hb dL_law_367 ?_
  refine va_sld hx hb hX hbl hbA hS (six (k := 3) (by decide) (by omega) hL) dL_law_368 ?_
  refine g_callAl S hs (tX1_turn l t D m0 m1 m2 cK cI u (xs ((nI a) + (1 : Int32)).toNatClampNeg) (xs ((nI a) + (2 : Int32)).toNatClampNeg) (xs ((nI a) + (3 : Int32)).toNatClampNeg)) rfl ml_L_68 im_yX1_turn se_yX1_turn cd_yX1_turn hd_yX1_turn ⟨by decide, by decide⟩ hE hS hA hP hK hD hl.1 rfl (Nat.le_of_ble_eq_true rfl) ⟨by show cells + 1 + 0 ≤ 1040; omega, by show slots + 6 + 0 ≤ 8297; omega⟩ dL_law_369 (fun z9 u9 H locs hz9 hP hD hS => ?_)
  have hag : gAg (jturn f (xs ((nI a) + (1 : Int32)).toNatClampNeg) (xs ((nI a) + (2 : Int32)).toNatClampNeg) (xs ((nI a) + (3 : Int32)).toNatClampNeg)) cod2 f z9 u9 := by rw [hz9.1, hz9.2, ← hu]; exact ag_turn u (xs ((nI a) + (1 : Int32)).toNatClampNeg) (xs ((nI a) + (2 : Int32)).toNatClampNeg) (xs ((nI a) + (3 : Int32)).toNatClampNeg) (by rw [hu]; exact hB)
  obtain ⟨a1, a2, a3, a4⟩ := gRes_k hres hag hB
  refine lv_lstore (lv' := [(6, .long z9), (5, .int k9), (0, .ref b), (1, .ref h0), (2, .ref m0), (3, .ref o0), (4, .int (nI a))]) hx hb dL_law_372 hl (by decide) rfl (fun ls hl => ?_)
  refine lv_aload_n hx hb dL_law_374 rfl (lv_at hl 4 rfl) ?_
  refine g_callAi S hs (tX1_thrown l t D m0 m1 m2 cK cI u9) rfl ml_L_53 im_yX1_thrown se_yX1_thrown cd_yX1_thrown hd_yX1_thrown ⟨by decide, by decide⟩ hE hS hA hP hK hD hl.1 rfl (Nat.le_of_ble_eq_true rfl) ⟨by show cells + 1 + 0 ≤ 1040; omega, by show slots + 6 + 0 ≤ 8297; omega⟩ dL_law_375 (fun r9 u8 H locs hr9 hP hD hS => ?_)
  obtain ⟨hr8, hu8⟩ := hr9
  rw [show u8 = u9 from hu8] at hP hD
  rw [hr8]
  have hP : va_P D vwCl (wA h0 h1 o0 m0 m1 m2 cJ cO cK cI f9 g9 u9) H := hP
  have hD : va_D A (wA h0 h1 o0 m0 m1 m2 cJ cO cK cI f9 g9 u9) := hD
  refine lv_iload hx hb dL_law_378 (lv_at hl 1 rfl) ?_
  refine lv_icmp_eq (tgt := 385) hx hb dL_law_380 (by decide) (fun _ => ?_) (fun c_1 => absurd (show (kthrown u9).1 = k9 from a1) c_1)
  refine lv_iload hx hb dL_law_385 (lv_at hl 1 rfl) ?_
  have fin : ∀ (H : Heap) (locs : List Loc), va_P D vwCl (wA h0 h1 o0 m0 m1 m2 cJ cO cK cI f9 g9 u9) H → va_S A s.heap H locs → W p l e room_1 s m args below meth c H locs (cells + 1) (slots + 6) Q (F0 m 401 ls []) := fun H locs hP hS => lv_goto (tgt := 606) hx hb dL_law_401 (by decide) (kk f9 g9 u9 H locs ls a4 a3 hP hD hS (lv_sub hl [2, 3, 4, 5, 6] rfl))
  refine lv_if_ne (tgt := 401) hx hb dL_law_387 (by decide) (fun _ => fin H locs hP hS) (fun c_2 => ?_)
  refine lv_aload_n hx hb dL_law_390 rfl (lv_at hl 5 rfl) ?_
  refine lv_iconst (v := 0) hx hb dL_law_391 (by decide) ?_
  refine va_lald hx hb hK hP 2 1 rfl rfl (by unfold vp_in; decide) dL_law_392 ?_
  refine lv_lload hx hb dL_law_393 (lv_at hl 0 rfl) ?_
  refine g_lc_eq (tgt := 401) hx hb dL_law_395 dL_law_396 (by decide) (fun _ => fin H locs hP hS) (fun c_3 => absurd (by rw [sb_cl0]; exact a2 c_2) c_3)
set_option maxHeartbeats 4000000 in
set_option maxRecDepth 100000 in
theorem lc_round {p : Program} {l : Launch} {e : Env} {s : State} {m : MethodId} {args : Array Value} {below : List Frame} {meth : Method} {c : Code} {H : Heap} {locs : List Loc} {cells slots : Nat} {Q : State → Prop} {ls : Array Slot} {A : Nat → Prop} {t b L a : Nat} {xs : Nat → Int32} {D : va_G} {h0 h1 o0 m0 m1 m2 : Nat} {cJ cO cK cI : ClassId} {f g : Nat → Int64} {u : mS} (hnt : l.stackTraces = false) (S : CallFix p m c code 8 s args lw_tbl RL) (hE : gE t A s s.heap) (hS : va_S A s.heap H locs) (hA : ∀ q, s.heap.size ≤ q → A q) (hP : va_P D vwCl (wA h0 h1 o0 m0 m1 m2 cJ cO cK cI f g u) H) (hK : va_K D vwCl [(cJ, .long), (cO, .long), (cK, .long), (cI, .int)] s) (hD : va_D A (wA h0 h1 o0 m0 m1 m2 cJ cO cK cI f g u)) (hX : va_X b L xs s s.heap) (hbl : b < s.heap.size) (hbA : ¬ A b) (hB : gBs f) (hu : u.2.1 = f) (hi : a + 5 ≤ L) (hL : L ≤ 2560) (hc1 : cells + 1 ≤ 1040) (hs1 : slots + 6 ≤ 8297) (hl : lv_has ls 8 [(0, .ref b), (1, .ref h0), (2, .ref m0), (3, .ref o0), (4, .int (nI a))])
    (kk : ∀ (f' g' : Nat → Int64) (u' : mS) (H : Heap) (locs : List Loc) (ls : Array Slot), gBs f' → u'.2.1 = f' → va_P D vwCl (wA h0 h1 o0 m0 m1 m2 cJ cO cK cI f' g' u') H → va_D A (wA h0 h1 o0 m0 m1 m2 cJ cO cK cI f' g' u') → va_S A s.heap H locs → lv_has ls 8 [(0, .ref b), (1, .ref h0), (2, .ref m0), (3, .ref o0), (4, .int (nI a))] → W p l e room_1 s m args below meth c H locs (cells + 1) (slots + 6) Q (F0 m 606 ls [])) :
    W p l e room_1 s m args below meth c H locs cells slots Q (F0 m 404 ls []) := by
  obtain ⟨hx, hb, hml, hown, hts⟩ := id S
  have hs : ∀ w ∈ gws, w ∈ lw_tbl := fun w h => gws_tbl h
  refine lv_aload_n hx hb dL_law_404 rfl (lv_at hl 1 rfl) ?_
  refine lv_aload_n hx hb dL_law_405 rfl (lv_at hl 0 rfl) ?_
  refine lv_iload hx hb dL_law_406 (lv_at hl 4 rfl) ?_
  refine lv_iconst (v := 1) hx hb dL_law_408 (by decide) ?_
  refine lv_iadd hx hb dL_law_409 ?_
  refine va_sld hx hb hX hbl hbA hS (six (k := 1) (by decide) (by omega) hL) dL_law_410 ?_
  refine lv_aload_n hx hb dL_law_411 rfl (lv_at hl 0 rfl) ?_
  refine lv_iload hx hb dL_law_412 (lv_at hl 4 rfl) ?_
  refine lv_iconst (v := 2) hx hb dL_law_414 (by decide) ?_
  refine lv_iadd hx hb dL_law_415 ?_
  refine va_sld hx hb hX hbl hbA hS (six (k := 2) (by decide) (by omega) hL) dL_law_416 ?_
  refine lv_aload_n hx hb dL_law_417 rfl (lv_at hl 0 rfl) ?_
  refine lv_iload hx hb dL_law_418 (lv_at hl 4 rfl) ?_
  refine lv_iconst (v := 3) hx hb dL_law_420 (by decide) ?_
  refine lv_iadd hx hb dL_law_421 ?_
  refine va_sld hx hb hX hbl hbA hS (six (k := 3) (by decide) (by omega) hL) dL_law_422 ?_
  refine lv_aload_n hx hb dL_law_423 rfl (lv_at hl 3 rfl) ?_
  refine g_callL S hs (tL_round l hnt t D h0 h1 o0 cJ cO f g (xs ((nI a) + (1 : Int32)).toNatClampNeg) (xs ((nI a) + (2 : Int32)).toNatClampNeg) (xs ((nI a) + (3 : Int32)).toNatClampNeg)) ml_L_69 st_yL_round in_L cd_yL_round hd_yL_round ⟨by decide, by decide⟩ hE hS hA hP hK hD hl.1 rfl (Nat.le_of_ble_eq_true rfl) ⟨by show cells + 1 ≤ 1040; omega, by show slots + 6 ≤ 8297; omega⟩ dL_law_424 (fun k9 f9 g9 H locs hres hP hD hS => ?_)
  refine lv_istore (lv' := [(5, .int k9), (0, .ref b), (1, .ref h0), (2, .ref m0), (3, .ref o0), (4, .int (nI a))]) hx hb dL_law_427 hl (by decide) rfl (fun ls hl => ?_)
  refine lv_aload_n hx hb dL_law_429 rfl (lv_at hl 3 rfl) ?_
  refine lv_aload_n hx hb dL_law_430 rfl (lv_at hl 1 rfl) ?_
  refine lv_iload hx hb dL_law_431 (lv_at hl 5 rfl) ?_
  refine lv_iconst (v := 1) hx hb dL_law_433 (by decide) ?_
  refine lv_iadd hx hb dL_law_434 ?_
  refine va_sld hx hb hX hbl hbA hS (six (k := 1) (by decide) (by omega) hL) dL_law_435 ?_
  refine lv_aload_n hx hb dL_law_436 rfl (lv_at hl 1 rfl) ?_
  refine lv_iload hx hb dL_law_437 (lv_at hl 5 rfl) ?_
  refine lv_iconst (v := 2) hx hb dL_law_439 (by decide) ?_
  refine lv_iadd hx hb dL_law_440 ?_
  refine va_sld hx hb hX hbl hbA hS (six (k := 2) (by decide) (by omega) hL) dL_law_441 ?_
  refine lv_aload_n hx hb dL_law_442 rfl (lv_at hl 1 rfl) ?_
  refine lv_iload hx hb dL_law_443 (lv_at hl 5 rfl) ?_
  refine lv_iconst (v := 3) hx hb dL_law_445 (by decide) ?_
  refine lv_iadd hx hb dL_law_446 ?_
  refine va_sld hx hb hX hbl hbA hS (six (k := 3) (by decide) (by omega) hL) dL_law_447 ?_
  refine g_callAl S hs (tX1_round l t D m0 m1 m2 cK cI u (xs ((nI a) + (1 : Int32)).toNatClampNeg) (xs ((nI a) + (2 : Int32)).toNatClampNeg) (xs ((nI a) + (3 : Int32)).toNatClampNeg)) rfl ml_L_71 im_yX1_round se_yX1_round cd_yX1_round hd_yX1_round ⟨by decide, by decide⟩ hE hS hA hP hK hD hl.1 rfl (Nat.le_of_ble_eq_true rfl) ⟨by show cells + 1 + 0 ≤ 1040; omega, by show slots + 6 + 0 ≤ 8297; omega⟩ dL_law_448 (fun z9 u9 H locs hz9 hP hD hS => ?_)
  have hag : gAg (jround f (xs ((nI a) + (1 : Int32)).toNatClampNeg) (xs ((nI a) + (2 : Int32)).toNatClampNeg) (xs ((nI a) + (3 : Int32)).toNatClampNeg)) cod2 f z9 u9 := by rw [hz9.1, hz9.2, ← hu]; exact ag_round u (xs ((nI a) + (1 : Int32)).toNatClampNeg) (xs ((nI a) + (2 : Int32)).toNatClampNeg) (xs ((nI a) + (3 : Int32)).toNatClampNeg) (by rw [hu]; exact hB)
  obtain ⟨a1, a2, a3, a4⟩ := gRes_k hres hag hB
  refine lv_lstore (lv' := [(6, .long z9), (5, .int k9), (0, .ref b), (1, .ref h0), (2, .ref m0), (3, .ref o0), (4, .int (nI a))]) hx hb dL_law_451 hl (by decide) rfl (fun ls hl => ?_)
  refine lv_aload_n hx hb dL_law_453 rfl (lv_at hl 4 rfl) ?_
  refine g_callAi S hs (tX1_thrown l t D m0 m1 m2 cK cI u9) rfl ml_L_53 im_yX1_thrown se_yX1_thrown cd_yX1_thrown hd_yX1_thrown ⟨by decide, by decide⟩ hE hS hA hP hK hD hl.1 rfl (Nat.le_of_ble_eq_true rfl) ⟨by show cells + 1 + 0 ≤ 1040; omega, by show slots + 6 + 0 ≤ 8297; omega⟩ dL_law_454 (fun r9 u8 H locs hr9 hP hD hS => ?_)
  obtain ⟨hr8, hu8⟩ := hr9
  rw [show u8 = u9 from hu8] at hP hD
  rw [hr8]
  have hP : va_P D vwCl (wA h0 h1 o0 m0 m1 m2 cJ cO cK cI f9 g9 u9) H := hP
  have hD : va_D A (wA h0 h1 o0 m0 m1 m2 cJ cO cK cI f9 g9 u9) := hD
  refine lv_iload hx hb dL_law_457 (lv_at hl 1 rfl) ?_
  refine lv_icmp_eq (tgt := 464) hx hb dL_law_459 (by decide) (fun _ => ?_) (fun c_1 => absurd (show (kthrown u9).1 = k9 from a1) c_1)
  refine lv_iload hx hb dL_law_464 (lv_at hl 1 rfl) ?_
  have fin : ∀ (H : Heap) (locs : List Loc), va_P D vwCl (wA h0 h1 o0 m0 m1 m2 cJ cO cK cI f9 g9 u9) H → va_S A s.heap H locs → W p l e room_1 s m args below meth c H locs (cells + 1) (slots + 6) Q (F0 m 480 ls []) := fun H locs hP hS => lv_goto (tgt := 606) hx hb dL_law_480 (by decide) (kk f9 g9 u9 H locs ls a4 a3 hP hD hS (lv_sub hl [2, 3, 4, 5, 6] rfl))
  refine lv_if_ne (tgt := 480) hx hb dL_law_466 (by decide) (fun _ => fin H locs hP hS) (fun c_2 => ?_)
  refine lv_aload_n hx hb dL_law_469 rfl (lv_at hl 5 rfl) ?_
  refine lv_iconst (v := 0) hx hb dL_law_470 (by decide) ?_
  refine va_lald hx hb hK hP 2 1 rfl rfl (by unfold vp_in; decide) dL_law_471 ?_
  refine lv_lload hx hb dL_law_472 (lv_at hl 0 rfl) ?_
  refine g_lc_eq (tgt := 480) hx hb dL_law_474 dL_law_475 (by decide) (fun _ => fin H locs hP hS) (fun c_3 => absurd (by rw [sb_cl0]; exact a2 c_2) c_3)
set_option maxHeartbeats 4000000 in
set_option maxRecDepth 100000 in
theorem lc_print {p : Program} {l : Launch} {e : Env} {s : State} {m : MethodId} {args : Array Value} {below : List Frame} {meth : Method} {c : Code} {H : Heap} {locs : List Loc} {cells slots : Nat} {Q : State → Prop} {ls : Array Slot} {A : Nat → Prop} {t b L a : Nat} {xs : Nat → Int32} {D : va_G} {h0 h1 o0 m0 m1 m2 : Nat} {cJ cO cK cI : ClassId} {f g : Nat → Int64} {u : mS} (hnt : l.stackTraces = false) (S : CallFix p m c code 8 s args lw_tbl RL) (hE : gE t A s s.heap) (hS : va_S A s.heap H locs) (hA : ∀ q, s.heap.size ≤ q → A q) (hP : va_P D vwCl (wA h0 h1 o0 m0 m1 m2 cJ cO cK cI f g u) H) (hK : va_K D vwCl [(cJ, .long), (cO, .long), (cK, .long), (cI, .int)] s) (hD : va_D A (wA h0 h1 o0 m0 m1 m2 cJ cO cK cI f g u)) (hX : va_X b L xs s s.heap) (hbl : b < s.heap.size) (hbA : ¬ A b) (hB : gBs f) (hu : u.2.1 = f) (hi : a + 5 ≤ L) (hL : L ≤ 2560) (hc1 : cells + 1 ≤ 1040) (hs1 : slots + 6 ≤ 8297) (hl : lv_has ls 8 [(0, .ref b), (1, .ref h0), (2, .ref m0), (3, .ref o0), (4, .int (nI a))])
    (kk : ∀ (f' g' : Nat → Int64) (u' : mS) (H : Heap) (locs : List Loc) (ls : Array Slot), gBs f' → u'.2.1 = f' → va_P D vwCl (wA h0 h1 o0 m0 m1 m2 cJ cO cK cI f' g' u') H → va_D A (wA h0 h1 o0 m0 m1 m2 cJ cO cK cI f' g' u') → va_S A s.heap H locs → lv_has ls 8 [(0, .ref b), (1, .ref h0), (2, .ref m0), (3, .ref o0), (4, .int (nI a))] → W p l e room_1 s m args below meth c H locs (cells + 1) (slots + 6) Q (F0 m 606 ls [])) :
    W p l e room_1 s m args below meth c H locs cells slots Q (F0 m 483 ls []) := by
  obtain ⟨hx, hb, hml, hown, hts⟩ := id S
  have hs : ∀ w ∈ gws, w ∈ lw_tbl := fun w h => gws_tbl h
  refine lv_aload_n hx hb dL_law_483 rfl (lv_at hl 1 rfl) ?_
  refine lv_aload_n hx hb dL_law_484 rfl (lv_at hl 0 rfl) ?_
  refine lv_iload hx hb dL_law_485 (lv_at hl 4 rfl) ?_
  refine lv_iconst (v := 1) hx hb dL_law_487 (by decide) ?_
  refine lv_iadd hx hb dL_law_488 ?_
  refine va_sld hx hb hX hbl hbA hS (six (k := 1) (by decide) (by omega) hL) dL_law_489 ?_
  refine lv_aload_n hx hb dL_law_490 rfl (lv_at hl 0 rfl) ?_
  refine lv_iload hx hb dL_law_491 (lv_at hl 4 rfl) ?_
  refine lv_iconst (v := 2) hx hb dL_law_493 (by decide) ?_
  refine lv_iadd hx hb dL_law_494 ?_
  refine va_sld hx hb hX hbl hbA hS (six (k := 2) (by decide) (by omega) hL) dL_law_495 ?_
  refine lv_aload_n hx hb dL_law_496 rfl (lv_at hl 3 rfl) ?_
  refine g_callL S hs (tL_print l hnt t D h0 h1 o0 cJ cO f g (xs ((nI a) + (1 : Int32)).toNatClampNeg) (xs ((nI a) + (2 : Int32)).toNatClampNeg)) ml_L_72 st_yL_print in_L cd_yL_print hd_yL_print ⟨by decide, by decide⟩ hE hS hA hP hK hD hl.1 rfl (Nat.le_of_ble_eq_true rfl) ⟨by show cells + 1 ≤ 1040; omega, by show slots + 6 ≤ 8297; omega⟩ dL_law_497 (fun k9 f9 g9 H locs hres hP hD hS => ?_)
  refine lv_istore (lv' := [(5, .int k9), (0, .ref b), (1, .ref h0), (2, .ref m0), (3, .ref o0), (4, .int (nI a))]) hx hb dL_law_500 hl (by decide) rfl (fun ls hl => ?_)
  refine lv_aload_n hx hb dL_law_502 rfl (lv_at hl 3 rfl) ?_
  refine lv_aload_n hx hb dL_law_503 rfl (lv_at hl 1 rfl) ?_
  refine lv_iload hx hb dL_law_504 (lv_at hl 5 rfl) ?_
  refine lv_iconst (v := 1) hx hb dL_law_506 (by decide) ?_
  refine lv_iadd hx hb dL_law_507 ?_
  refine va_sld hx hb hX hbl hbA hS (six (k := 1) (by decide) (by omega) hL) dL_law_508 ?_
  refine lv_aload_n hx hb dL_law_509 rfl (lv_at hl 1 rfl) ?_
  refine lv_iload hx hb dL_law_510 (lv_at hl 5 rfl) ?_
  refine lv_iconst (v := 2) hx hb dL_law_512 (by decide) ?_
  refine lv_iadd hx hb dL_law_513 ?_
  refine va_sld hx hb hX hbl hbA hS (six (k := 2) (by decide) (by omega) hL) dL_law_514 ?_
  refine g_callAi S hs (tX1_print l t D m0 m1 m2 cK cI u (xs ((nI a) + (1 : Int32)).toNatClampNeg) (xs ((nI a) + (2 : Int32)).toNatClampNeg) (fun q => by rw [hu]; exact hB _ (in8 (out_in q)))) rfl ml_L_75 im_yX1_print se_yX1_print cd_yX1_print hd_yX1_print ⟨by decide, by decide⟩ hE hS hA hP hK hD hl.1 rfl (Nat.le_of_ble_eq_true rfl) ⟨by show cells + 1 + 0 ≤ 1040; omega, by show slots + 6 + 0 ≤ 8297; omega⟩ dL_law_515 (fun z9 u9 H locs hz9 hP hD hS => ?_)
  have hag : gAg (jprintL f (xs ((nI a) + (1 : Int32)).toNatClampNeg) (xs ((nI a) + (2 : Int32)).toNatClampNeg)) cod1 f z9.toInt64 u9 := by rw [← hu]; exact ag_print u u9 z9 _ _ (by rw [hu]; exact hB) hz9.1 hz9.2
  obtain ⟨a1, a2, a3, a4⟩ := gRes_k hres hag hB
  refine lv_istore (lv' := [(6, .int z9), (5, .int k9), (0, .ref b), (1, .ref h0), (2, .ref m0), (3, .ref o0), (4, .int (nI a))]) hx hb dL_law_518 hl (by decide) rfl (fun ls hl => ?_)
  refine lv_aload_n hx hb dL_law_520 rfl (lv_at hl 4 rfl) ?_
  refine g_callAi S hs (tX1_thrown l t D m0 m1 m2 cK cI u9) rfl ml_L_53 im_yX1_thrown se_yX1_thrown cd_yX1_thrown hd_yX1_thrown ⟨by decide, by decide⟩ hE hS hA hP hK hD hl.1 rfl (Nat.le_of_ble_eq_true rfl) ⟨by show cells + 1 + 0 ≤ 1040; omega, by show slots + 6 + 0 ≤ 8297; omega⟩ dL_law_521 (fun r9 u8 H locs hr9 hP hD hS => ?_)
  obtain ⟨hr8, hu8⟩ := hr9
  rw [show u8 = u9 from hu8] at hP hD
  rw [hr8]
  have hP : va_P D vwCl (wA h0 h1 o0 m0 m1 m2 cJ cO cK cI f9 g9 u9) H := hP
  have hD : va_D A (wA h0 h1 o0 m0 m1 m2 cJ cO cK cI f9 g9 u9) := hD
  refine lv_iload hx hb dL_law_524 (lv_at hl 1 rfl) ?_
  refine lv_icmp_eq (tgt := 531) hx hb dL_law_526 (by decide) (fun _ => ?_) (fun c_1 => absurd (show (kthrown u9).1 = k9 from a1) c_1)
  refine lv_iload hx hb dL_law_531 (lv_at hl 1 rfl) ?_
  have fin : ∀ (H : Heap) (locs : List Loc), va_P D vwCl (wA h0 h1 o0 m0 m1 m2 cJ cO cK cI f9 g9 u9) H → va_S A s.heap H locs → W p l e room_1 s m args below meth c H locs (cells + 1) (slots + 6) Q (F0 m 548 ls []) := fun H locs hP hS => lv_goto (tgt := 606) hx hb dL_law_548 (by decide) (kk f9 g9 u9 H locs ls a4 a3 hP hD hS (lv_sub hl [2, 3, 4, 5, 6] rfl))
  refine lv_if_ne (tgt := 548) hx hb dL_law_533 (by decide) (fun _ => fin H locs hP hS) (fun c_2 => ?_)
  refine lv_aload_n hx hb dL_law_536 rfl (lv_at hl 5 rfl) ?_
  refine lv_iconst (v := 0) hx hb dL_law_537 (by decide) ?_
  refine va_lald hx hb hK hP 2 1 rfl rfl (by unfold vp_in; decide) dL_law_538 ?_
  refine lv_iload hx hb dL_law_539 (lv_at hl 0 rfl) ?_
  refine lv_i2l hx hb dL_law_541 rfl ?_
  refine g_lc_eq (tgt := 548) hx hb dL_law_542 dL_law_543 (by decide) (fun _ => fin H locs hP hS) (fun c_3 => absurd (by rw [sb_cl0]; exact a2 c_2) c_3)
set_option maxHeartbeats 4000000 in
set_option maxRecDepth 100000 in
theorem lc_average {p : Program} {l : Launch} {e : Env} {s : State} {m : MethodId} {args : Array Value} {below : List Frame} {meth : Method} {c : Code} {H : Heap} {locs : List Loc} {cells slots : Nat} {Q : State → Prop} {ls : Array Slot} {A : Nat → Prop} {t b L a : Nat} {xs : Nat → Int32} {D : va_G} {h0 h1 o0 m0 m1 m2 : Nat} {cJ cO cK cI : ClassId} {f g : Nat → Int64} {u : mS} (hnt : l.stackTraces = false) (S : CallFix p m c code 8 s args lw_tbl RL) (hE : gE t A s s.heap) (hS : va_S A s.heap H locs) (hA : ∀ q, s.heap.size ≤ q → A q) (hP : va_P D vwCl (wA h0 h1 o0 m0 m1 m2 cJ cO cK cI f g u) H) (hK : va_K D vwCl [(cJ, .long), (cO, .long), (cK, .long), (cI, .int)] s) (hD : va_D A (wA h0 h1 o0 m0 m1 m2 cJ cO cK cI f g u)) (hX : va_X b L xs s s.heap) (hbl : b < s.heap.size) (hbA : ¬ A b) (hB : gBs f) (hu : u.2.1 = f) (hi : a + 5 ≤ L) (hL : L ≤ 2560) (hc1 : cells + 1 ≤ 1040) (hs1 : slots + 6 ≤ 8297) (hl : lv_has ls 8 [(0, .ref b), (1, .ref h0), (2, .ref m0), (3, .ref o0), (4, .int (nI a))])
    (kk : ∀ (f' g' : Nat → Int64) (u' : mS) (H : Heap) (locs : List Loc) (ls : Array Slot), gBs f' → u'.2.1 = f' → va_P D vwCl (wA h0 h1 o0 m0 m1 m2 cJ cO cK cI f' g' u') H → va_D A (wA h0 h1 o0 m0 m1 m2 cJ cO cK cI f' g' u') → va_S A s.heap H locs → lv_has ls 8 [(0, .ref b), (1, .ref h0), (2, .ref m0), (3, .ref o0), (4, .int (nI a))] → W p l e room_1 s m args below meth c H locs (cells + 1) (slots + 6) Q (F0 m 606 ls [])) :
    W p l e room_1 s m args below meth c H locs cells slots Q (F0 m 551 ls []) := by
  obtain ⟨hx, hb, hml, hown, hts⟩ := id S
  have hs : ∀ w ∈ gws, w ∈ lw_tbl := fun w h => gws_tbl h
  refine lv_aload_n hx hb dL_law_551 rfl (lv_at hl 1 rfl) ?_
  refine lv_aload_n hx hb dL_law_552 rfl (lv_at hl 0 rfl) ?_
  refine lv_iload hx hb dL_law_553 (lv_at hl 4 rfl) ?_
  refine lv_iconst (v := 1) hx hb dL_law_555 (by decide) ?_
  refine lv_iadd hx hb dL_law_556 ?_
  refine va_sld hx hb hX hbl hbA hS (six (k := 1) (by decide) (by omega) hL) dL_law_557 ?_
  refine lv_aload_n hx hb dL_law_558 rfl (lv_at hl 3 rfl) ?_
  refine g_callL S hs (tL_average l hnt t D h0 h1 o0 cJ cO f g (xs ((nI a) + (1 : Int32)).toNatClampNeg)) ml_L_76 st_yL_average in_L cd_yL_average hd_yL_average ⟨by decide, by decide⟩ hE hS hA hP hK hD hl.1 rfl (Nat.le_of_ble_eq_true rfl) ⟨by show cells + 1 ≤ 1040; omega, by show slots + 6 ≤ 8297; omega⟩ dL_law_559 (fun k9 f9 g9 H locs hres hP hD hS => ?_)
  refine lv_istore (lv' := [(5, .int k9), (0, .ref b), (1, .ref h0), (2, .ref m0), (3, .ref o0), (4, .int (nI a))]) hx hb dL_law_562 hl (by decide) rfl (fun ls hl => ?_)
  refine lv_aload_n hx hb dL_law_564 rfl (lv_at hl 3 rfl) ?_
  refine lv_aload_n hx hb dL_law_565 rfl (lv_at hl 1 rfl) ?_
  refine lv_iload hx hb dL_law_566 (lv_at hl 5 rfl) ?_
  refine lv_iconst (v := 1) hx hb dL_law_568 (by decide) ?_
  refine lv_iadd hx hb dL_law_569 ?_
  refine va_sld hx hb hX hbl hbA hS (six (k := 1) (by decide) (by omega) hL) dL_law_570 ?_
  refine g_callAl S hs (tX1_average l t D m0 m1 m2 cK cI u (xs ((nI a) + (1 : Int32)).toNatClampNeg)) rfl ml_L_78 im_yX1_average se_yX1_average cd_yX1_average hd_yX1_average ⟨by decide, by decide⟩ hE hS hA hP hK hD hl.1 rfl (Nat.le_of_ble_eq_true rfl) ⟨by show cells + 1 + 0 ≤ 1040; omega, by show slots + 6 + 0 ≤ 8297; omega⟩ dL_law_571 (fun z9 u9 H locs hz9 hP hD hS => ?_)
  have hag : gAg (javerage f (xs ((nI a) + (1 : Int32)).toNatClampNeg)) cod2 f z9 u9 := by rw [hz9.1, hz9.2, ← hu]; exact ag_average u (xs ((nI a) + (1 : Int32)).toNatClampNeg) (by rw [hu]; exact hB)
  obtain ⟨a1, a2, a3, a4⟩ := gRes_k hres hag hB
  refine lv_lstore (lv' := [(6, .long z9), (5, .int k9), (0, .ref b), (1, .ref h0), (2, .ref m0), (3, .ref o0), (4, .int (nI a))]) hx hb dL_law_574 hl (by decide) rfl (fun ls hl => ?_)
  refine lv_aload_n hx hb dL_law_576 rfl (lv_at hl 4 rfl) ?_
  refine g_callAi S hs (tX1_thrown l t D m0 m1 m2 cK cI u9) rfl ml_L_53 im_yX1_thrown se_yX1_thrown cd_yX1_thrown hd_yX1_thrown ⟨by decide, by decide⟩ hE hS hA hP hK hD hl.1 rfl (Nat.le_of_ble_eq_true rfl) ⟨by show cells + 1 + 0 ≤ 1040; omega, by show slots + 6 + 0 ≤ 8297; omega⟩ dL_law_577 (fun r9 u8 H locs hr9 hP hD hS => ?_)
  obtain ⟨hr8, hu8⟩ := hr9
  rw [show u8 = u9 from hu8] at hP hD
  rw [hr8]
  have hP : va_P D vwCl (wA h0 h1 o0 m0 m1 m2 cJ cO cK cI f9 g9 u9) H := hP
  have hD : va_D A (wA h0 h1 o0 m0 m1 m2 cJ cO cK cI f9 g9 u9) := hD
  refine lv_iload hx hb dL_law_580 (lv_at hl 1 rfl) ?_
  refine lv_icmp_eq (tgt := 587) hx hb dL_law_582 (by decide) (fun _ => ?_) (fun c_1 => absurd (show (kthrown u9).1 = k9 from a1) c_1)
  refine lv_iload hx hb dL_law_587 (lv_at hl 1 rfl) ?_
  have fin : ∀ (H : Heap) (locs : List Loc), va_P D vwCl (wA h0 h1 o0 m0 m1 m2 cJ cO cK cI f9 g9 u9) H → va_S A s.heap H locs → W p l e room_1 s m args below meth c H locs (cells + 1) (slots + 6) Q (F0 m 603 ls []) := fun H locs hP hS => lv_goto (tgt := 606) hx hb dL_law_603 (by decide) (kk f9 g9 u9 H locs ls a4 a3 hP hD hS (lv_sub hl [2, 3, 4, 5, 6] rfl))
  refine lv_if_ne (tgt := 603) hx hb dL_law_589 (by decide) (fun _ => fin H locs hP hS) (fun c_2 => ?_)
  refine lv_aload_n hx hb dL_law_592 rfl (lv_at hl 5 rfl) ?_
  refine lv_iconst (v := 0) hx hb dL_law_593 (by decide) ?_
  refine va_lald hx hb hK hP 2 1 rfl rfl (by unfold vp_in; decide) dL_law_594 ?_
  refine lv_lload hx hb dL_law_595 (lv_at hl 0 rfl) ?_
  refine g_lc_eq (tgt := 603) hx hb dL_law_597 dL_law_598 (by decide) (fun _ => fin H locs hP hS) (fun c_3 => absurd (by rw [sb_cl0]; exact a2 c_2) c_3)
end
section
/-! THE CLAIM OUT OF ONE WALK OF THE LAW'S BODY. Your part is whole_start (and what it stands on); all else here is the same for every law, but numbers. -/
def R_law : String := "TenThousandthDeskLaw"
def lw_P (b : Addr) (xs : List Int32) (args : Array Value) (s : State) : Prop := args = #[.ref b] ∧ s.IntsAt b xs ∧ xs.length ≤ 2560 ∧ (Jvm.Cond.and given_1 narrow_1).before args s = true
def lw_Q (_ : Array Value) (s : State) (o : Outcome) (t : State) : Prop := o = .returned (some (.int 1)) ∧ Framed s o t [] 1040 8297
def lw_Z (below : List Frame) (a : Array Value) (s : State) : State → Prop := fun t => ∃ o, t.status = .running ∧ Ended t below o ∧ lw_Q a s o t
/-- the law's own end, with 1 on the stack, nothing written that was there before, its room as the claim has it -/
theorem lw_ret {p : Program} {l : Launch} {e : Env} {s : State} {m : MethodId} {below : List Frame} {meth : Method} {c : Code} {b : Nat} (hx : p.tables.exec = Jvm.exec) (hb : c.code = code) (hr : meth.sig.returnType = ret) (hlocks : meth.locks = false) {pc : Nat} {H : Heap} {ls : Array Slot} (hdg : decode code pc = .ok (.ireturn, 1)) : W p l e room_1 s m #[Value.ref b] below meth c H [] 1040 8297 (lw_Z below #[Value.ref b] s) (F0 m pc ls [.int 1]) := by
  intro T hT X
  obtain ⟨fs, hret, hrun, hended, hW, hframe⟩ := X.leave (v := some (.int 1)) (hlocks := hlocks) (fun h => by rw [hr] at h; cases h)
  have hmeth' : T.vm.method? m = some meth := X.method'
  refine ⟨T.setFrames fs, ?_, .returned (some (.int 1)), hrun, hended, rfl, ⟨_, rfl⟩, hW, hframe⟩
  jvm_step X.here [X.here.top, hx, hb, hdg, hmeth', hr, ret, narrow_b1]
  (try refine ⟨rfl, ?_⟩); (try refine ⟨rfl, ?_⟩)
  first | (intro acts; rw [hret _ acts rfl rfl rfl]) | rw [hret _ _ rfl rfl rfl]
  exact Steps.refl _
/-- what holds at the law's entry: the machine, the code, the tables' words (any of lw_tbl by 'hts w (by decide +kernel)'), the script of L ints xs at the cell b, what the Statement gives of the start (any of its parts by flat_of_before) -/
def lw_At (p : Program) (s : State) (m : MethodId) (meth : Method) (c : Code) (b L : Nat) (xs : Nat → Int32) : Prop :=
  p.tables.exec = Jvm.exec ∧ c.code = code ∧ meth.sig.returnType = ret ∧ c.maxLocals = 8 ∧ s.vm.findClass R_law = some m.cls ∧ (∀ w ∈ lw_tbl, w.before #[Value.ref b] s = true) ∧ va_X b L xs s s.heap ∧ b < s.heap.size ∧ meth.locks = false ∧ (Jvm.Cond.and given_1 narrow_1).before #[Value.ref b] s = true

/-! ===== the law, from its entry ===== -/
theorem gBd_0 : gBd 0 := ⟨by decide, by decide⟩
theorem g_exit {a L : Nat} (ha : a ≤ 2560) (hL : L ≤ 2560) : nI L - (5 : Int32) < nI a ↔ L < a + 5 := by
  rw [Int32.lt_iff_toInt_lt, nI_toInt (by omega), show (5 : Int32) = nI 5 from by decide, pk_sub_toInt (by omega) (by omega)]
  omega
set_option maxHeartbeats 4000000 in
set_option maxRecDepth 100000 in
theorem law_loop {p : Program} {l : Launch} {e : Env} {s : State} {m : MethodId} {below : List Frame} {meth : Method} {c : Code} {t b L : Nat} {xs : Nat → Int32} {D : va_G} {h0 h1 o0 m0 m1 m2 : Nat} {cJ cO cK cI : ClassId} (hnt : l.stackTraces = false) (hL : L ≤ 2560) (C0 : lw_At p s m meth c b L xs) (hE : gE t (gN s.heap.size) s s.heap) (hK : va_K D vwCl [(cJ, .long), (cO, .long), (cK, .long), (cI, .int)] s) :
    ∀ (n k : Nat) (f g : Nat → Int64) (u : mS) (H : Heap) (locs : List Loc) (ls : Array Slot), 5 * k ≤ L → L + 5 ≤ 5 * k + 5 * n → gBs f → u.2.1 = f → va_P D vwCl (wA h0 h1 o0 m0 m1 m2 cJ cO cK cI f g u) H → va_D (gN s.heap.size) (wA h0 h1 o0 m0 m1 m2 cJ cO cK cI f g u) → va_S (gN s.heap.size) s.heap H locs → lv_has ls 8 [(0, .ref b), (1, .ref h0), (2, .ref m0), (3, .ref o0), (4, .int (nI (5 * k)))] →
      W p l e room_1 s m #[Value.ref b] below meth c H locs (6 + k) (45 + 6 * k) (lw_Z below #[Value.ref b] s) (F0 m 23 ls []) := by
  obtain ⟨hx, hb, hr, hml, hown, hts, hX, hbl, hlocks, hgv⟩ := C0
  have S : CallFix p m c code 8 s #[Value.ref b] lw_tbl RL := ⟨hx, hb, hml, hown, hts⟩
  have hA : ∀ q : Nat, s.heap.size ≤ q → gN s.heap.size q := fun _ h => h
  have hbA : ¬ gN s.heap.size b := Nat.not_le.mpr hbl
  intro n
  induction n with
  | zero => intro k f g u H locs ls h1 h2; omega
  | succ n ih =>
    intro k f g u H locs ls hk hn hB hu hP hD hS hl
    refine lv_iload hx hb dL_law_23 (lv_at hl 4 rfl) ?_
    refine lv_aload_n hx hb dL_law_25 rfl (lv_at hl 0 rfl) ?_
    refine va_slen hx hb hX hbl hbA hS dL_law_26 ?_
    refine lv_iconst (v := 5) hx hb dL_law_27 (by decide) ?_
    refine lv_isub hx hb dL_law_28 ?_
    refine lv_icmp_gt (tgt := 612) hx hb dL_law_29 (by decide) (fun c_1 => ?_) (fun c_1 => ?_)
    · refine lv_iconst (v := 1) hx hb dL_law_612 (by decide) ?_
      refine va_forget (fun q hq => hS.2.2 q hq) ?_
      refine W.widen (k := 1040) (n := 8297) (by omega) (by omega) ?_
      exact lw_ret hx hb hr hlocks dL_law_613
    · have hlt : 5 * k + 5 ≤ L := by
        rcases Nat.lt_or_ge L (5 * k + 5) with q | q
        · exact absurd ((g_exit (by omega) hL).mpr q) c_1
        · exact q
      have next : ∀ (f' g' : Nat → Int64) (u' : mS) (H : Heap) (locs : List Loc) (ls : Array Slot), gBs f' → u'.2.1 = f' → va_P D vwCl (wA h0 h1 o0 m0 m1 m2 cJ cO cK cI f' g' u') H → va_D (gN s.heap.size) (wA h0 h1 o0 m0 m1 m2 cJ cO cK cI f' g' u') → va_S (gN s.heap.size) s.heap H locs → lv_has ls 8 [(0, .ref b), (1, .ref h0), (2, .ref m0), (3, .ref o0), (4, .int (nI (5 * k)))] → W p l e room_1 s m #[Value.ref b] below meth c H locs (6 + k + 1) (45 + 6 * k + 6) (lw_Z below #[Value.ref b] s) (F0 m 606 ls []) := by
        intro f' g' u' H locs ls hB hu hP hD hS hl
        refine lv_iinc (v := nI (5 * (k + 1))) (lv' := [(4, .int (nI (5 * (k + 1)))), (0, .ref b), (1, .ref h0), (2, .ref m0), (3, .ref o0)]) hx hb dL_law_606 hl (k := 4) rfl (by rw [show Int32.ofInt 5 = nI 5 from by decide, nI_add, Nat.mul_add]) (by decide) rfl (fun ls hl => ?_)
        refine lv_goto (tgt := 23) hx hb dL_law_609 (by decide) ?_
        refine W.widen (k := 6 + (k + 1)) (n := 45 + 6 * (k + 1)) (by omega) (by omega) ?_
        exact ih (k + 1) f' g' u' H locs ls (by omega) (by omega) hB hu hP hD hS (lv_sub hl [1, 2, 3, 4, 0] rfl)
      have hc1 : 6 + k + 1 ≤ 1040 := by omega
      have hs1 : 45 + 6 * k + 6 ≤ 8297 := by omega
      refine lv_aload_n hx hb dL_law_32 rfl (lv_at hl 0 rfl) ?_
      refine lv_iload hx hb dL_law_33 (lv_at hl 4 rfl) ?_
      refine va_sld hx hb hX hbl hbA hS (vp_in_nI (by omega) (by omega)) dL_law_35 ?_
      refine lv_bipush (v := 7) hx hb dL_law_36 (by decide) ?_
      refine lv_iand hx hb dL_law_38 ?_
      obtain ⟨j, hj, ej⟩ := pk_andE (xs (nI (5 * k)).toNatClampNeg) (m := 7) 3 (by decide)
      rw [ej]
      have hj8 : j = 0 ∨ j = 1 ∨ j = 2 ∨ j = 3 ∨ j = 4 ∨ j = 5 ∨ j = 6 ∨ j = 7 := by omega
      rcases hj8 with rfl | rfl | rfl | rfl | rfl | rfl | rfl | rfl
      · refine lv_tableIn (off := 41) (tgt := 80) hx hb dL_law_39 (by decide) (by decide) (by rfl) (by decide) ?_
        exact lc_set hnt S hE hS hA hP hK hD hX hbl hbA hB hu hlt hL hc1 hs1 hl next
      · refine lv_tableIn (off := 140) (tgt := 179) hx hb dL_law_39 (by decide) (by decide) (by rfl) (by decide) ?_
        exact lc_get hnt S hE hS hA hP hK hD hX hbl hbA hB hu hlt hL hc1 hs1 hl next
      · refine lv_tableIn (off := 195) (tgt := 234) hx hb dL_law_39 (by decide) (by decide) (by rfl) (by decide) ?_
        exact lc_reckon hnt S hE hS hA hP hK hD hX hbl hbA hB hu hlt hL hc1 hs1 hl next
      · refine lv_tableIn (off := 286) (tgt := 325) hx hb dL_law_39 (by decide) (by decide) (by rfl) (by decide) ?_
        exact lc_turn hnt S hE hS hA hP hK hD hX hbl hbA hB hu hlt hL hc1 hs1 hl next
      · refine lv_tableIn (off := 365) (tgt := 404) hx hb dL_law_39 (by decide) (by decide) (by rfl) (by decide) ?_
        exact lc_round hnt S hE hS hA hP hK hD hX hbl hbA hB hu hlt hL hc1 hs1 hl next
      · refine lv_tableIn (off := 444) (tgt := 483) hx hb dL_law_39 (by decide) (by decide) (by rfl) (by decide) ?_
        exact lc_print hnt S hE hS hA hP hK hD hX hbl hbA hB hu hlt hL hc1 hs1 hl next
      · refine lv_tableIn (off := 512) (tgt := 551) hx hb dL_law_39 (by decide) (by decide) (by rfl) (by decide) ?_
        exact lc_average hnt S hE hS hA hP hK hD hX hbl hbA hB hu hlt hL hc1 hs1 hl next
      · refine lv_tableOut (tgt := 606) hx hb dL_law_39 (Or.inr (by decide)) (by decide) ?_
        refine W.widen (k := 6 + k + 1) (n := 45 + 6 * k + 6) (by omega) (by omega) ?_
        exact next f g u H locs ls hB hu hP hD hS hl
def gTm : Term := .static "TenThousandthDesk" "POWERS_OF_TEN" "[J"
set_option maxRecDepth 20000 in
theorem gNs_in : ∀ w ∈ gNs, w ∈ lw_tbl := by decide +kernel
set_option maxRecDepth 20000 in
theorem ground {s : State} {b : Nat} (hts : ∀ w ∈ lw_tbl, w.before #[Value.ref b] s = true) (hgv : (Jvm.Cond.and given_1 narrow_1).before #[Value.ref b] s = true) : ∃ t : Nat, gE t (gN s.heap.size) s s.heap := by
  have hs := flat_of_before _ hgv
  have hA : ∀ a : Nat, a < s.heap.size → ¬ gN s.heap.size a := fun a h => Nat.not_le.mpr h
  have hel : ∀ j : Nat, j < 14 → (Term.elem gTm (.int (Int32.ofNat j))).eval #[Value.ref b] s none [] s = some (.long (gP j)) := by
    intro j hj
    rcases (show j = 0 ∨ j = 1 ∨ j = 2 ∨ j = 3 ∨ j = 4 ∨ j = 5 ∨ j = 6 ∨ j = 7 ∨ j = 8 ∨ j = 9 ∨ j = 10 ∨ j = 11 ∨ j = 12 ∨ j = 13 by omega) with rfl | rfl | rfl | rfl | rfl | rfl | rfl | rfl | rfl | rfl | rfl | rfl | rfl | rfl
    · exact va_eqtl (hs (.eq (.elem gTm (.int (Int32.ofNat 0))) (.long (gP 0))) (by decide +kernel))
    · exact va_eqtl (hs (.eq (.elem gTm (.int (Int32.ofNat 1))) (.long (gP 1))) (by decide +kernel))
    · exact va_eqtl (hs (.eq (.elem gTm (.int (Int32.ofNat 2))) (.long (gP 2))) (by decide +kernel))
    · exact va_eqtl (hs (.eq (.elem gTm (.int (Int32.ofNat 3))) (.long (gP 3))) (by decide +kernel))
    · exact va_eqtl (hs (.eq (.elem gTm (.int (Int32.ofNat 4))) (.long (gP 4))) (by decide +kernel))
    · exact va_eqtl (hs (.eq (.elem gTm (.int (Int32.ofNat 5))) (.long (gP 5))) (by decide +kernel))
    · exact va_eqtl (hs (.eq (.elem gTm (.int (Int32.ofNat 6))) (.long (gP 6))) (by decide +kernel))
    · exact va_eqtl (hs (.eq (.elem gTm (.int (Int32.ofNat 7))) (.long (gP 7))) (by decide +kernel))
    · exact va_eqtl (hs (.eq (.elem gTm (.int (Int32.ofNat 8))) (.long (gP 8))) (by decide +kernel))
    · exact va_eqtl (hs (.eq (.elem gTm (.int (Int32.ofNat 9))) (.long (gP 9))) (by decide +kernel))
    · exact va_eqtl (hs (.eq (.elem gTm (.int (Int32.ofNat 10))) (.long (gP 10))) (by decide +kernel))
    · exact va_eqtl (hs (.eq (.elem gTm (.int (Int32.ofNat 11))) (.long (gP 11))) (by decide +kernel))
    · exact va_eqtl (hs (.eq (.elem gTm (.int (Int32.ofNat 12))) (.long (gP 12))) (by decide +kernel))
    · exact va_eqtl (hs (.eq (.elem gTm (.int (Int32.ofNat 13))) (.long (gP 13))) (by decide +kernel))
  obtain ⟨t, ht, hT⟩ := va_Tof (tm := gTm) (ty := .long) (N := 14) (f := fun j => .long (gP j)) (A := gN s.heap.size) (by decide) (hs (.arrayOf gTm .long) (by decide +kernel)) (va_eqt (hs (.eq (.length gTm) (.int (Int32.ofNat 14))) (by decide +kernel))) hel hA
  refine ⟨t, ?_, ⟨?_, ?_, ?_⟩, ?_, ?_, ?_, hT⟩
  · intro w hw
    exact va_Nw.of (gNs_on w hw) (hts w (gNs_in w hw))
  · exact va_Nc.of (hs (.not (.castable gUOE gIAE)) (by decide +kernel))
  · exact va_Nc.of (hs (.not (.castable gAE gIAE)) (by decide +kernel))
  · exact va_Nc.of (hs (.not (.castable gAE gUOE)) (by decide +kernel))
  · exact vx_Zqof (hts (.laysStatic Bundle.tN "UNASSIGNED_STACK" Bundle.steD) (by decide +kernel)) (hts (.initialized Bundle.tN) (by decide +kernel)) (hs (.isRef (.static Bundle.tN "UNASSIGNED_STACK" Bundle.steD)) (by decide +kernel)) hA
  · exact vx_Zqof (hts (.laysStatic Bundle.tN "SUPPRESSED_SENTINEL" Bundle.listD) (by decide +kernel)) (hts (.initialized Bundle.tN) (by decide +kernel)) (hs (.isRef (.static Bundle.tN "SUPPRESSED_SENTINEL" Bundle.listD)) (by decide +kernel)) hA
  · exact va_Zref (hts (.laysStatic RX0 "POWERS_OF_TEN" "[J") (by decide +kernel)) (hts (.initialized RX0) (by decide +kernel)) ht hA
set_option maxHeartbeats 4000000 in
set_option maxRecDepth 100000 in
/-- THE LAW, from its entry -/
theorem whole_start {p : Program} {e : Env} {s : State} {m : MethodId} {below : List Frame} {meth : Method} {c : Code} (l : Launch) (hnt : l.stackTraces = false) {b L : Nat} {xs : Nat → Int32} (hL : L ≤ 2560) (C0 : lw_At p s m meth c b L xs) : W p l e room_1 s m #[Value.ref b] below meth c s.heap [] 0 0 (lw_Z below #[Value.ref b] s) (entryFrame m ([Value.ref b] : List Value).toArray 8) := by
  obtain ⟨hx, hb, hr, hml, hown, hts, hX, hbl, hlocks, hgv⟩ := id C0
  obtain ⟨t, hE⟩ := ground hts hgv
  have hs : ∀ w ∈ gws, w ∈ lw_tbl := fun w h => gws_tbl h
  have hA : ∀ q : Nat, s.heap.size ≤ q → gN s.heap.size q := fun _ h => h
  obtain ⟨c0, iS0, hKn0⟩ := u_known (C := RX0) (T := TX0) (N := 1) (n := 1) hts (fun w h => hs _ (inX0g w h)) (hts _ (hs _ nt_X0))
  obtain ⟨c1, iS1, hKn1⟩ := u_known (C := RX1) (T := TX1) (N := 3) (n := 3) hts (fun w h => hs _ (inX1g w h)) (hts _ (hs _ nt_X1))
  obtain ⟨dC, dI, hKc⟩ : ∃ (dC : Nat → ClassId) (dI : Nat → Nat → Nat), ∀ (k : Nat) (q : vw_C), vwCl[k]? = some q → u_Kn s q.1 q.2.1 q.2.2 (dC k) (dI k) := by
    refine ⟨fun k => if k = 0 then c0 else c1, fun k => if k = 0 then iS0 else iS1, ?_⟩
    intro k q hq
    match k, hq with
    | 0, hq => cases hq; exact hKn0
    | 1, hq => cases hq; exact hKn1
    | k + 2, hq => simp [vwCl] at hq
  have hS : va_S (gN s.heap.size) s.heap s.heap [] := va_S.rf
  have hK : va_K (dC, dI) vwCl [] s := ⟨hKc, fun k q h => by simp at h⟩
  have hP : va_P (dC, dI) vwCl [] s.heap := fun k q h => by simp at h
  have hD : va_D (gN s.heap.size) [] := ⟨fun i j p q h => by simp at h, fun k q h => by simp at h⟩
  have hl := lv_entry ([.ref b]) (n := 8) (Nat.le_of_ble_eq_true rfl)
  rw [lg_entry_eq]
  generalize (lg_sl ([.ref b]) ++ List.replicate (8 - (lg_sl ([.ref b])).length) Slot.unset).toArray = ls at hl ⊢
  have hl : lv_has ls 8 [(0, .ref b)] := hl
  -- the desk
  refine va_new (ci := 0) (fs := [.null]) (C := RX0) (T := TX0) (N := 1) hx hb hts (fun w h => hs _ (inX0g w h)) tyX0 tyX0_ok hown (hts _ (hs _ cl_L_8)) (hts _ (hs _ nt_X0)) (hts _ (hs _ in_X0)) hK hP hD hS hA rfl (fun j hj => by rcases (show j = 0 by omega) with rfl; rfl) (Nat.le_of_ble_eq_true rfl) (Nat.le_of_ble_eq_true rfl) dL_law_0 (fun h0 H hP hD hS => ?_)
  have hP : va_P (dC, dI) vwCl [(h0, .inr (0, [.null]))] H := hP
  have hD : va_D (gN s.heap.size) [(h0, .inr (0, [.null]))] := hD
  refine W.widen (k := 1) (n := 1) (by omega) (by omega) ?_
  refine lv_dup hx hb dL_law_3 rfl ?_
  have hFc := va_free (wc := [(h0, .inr (0, [.null]))]) hD hS hA [0] rfl
  refine va_callv (va_runI (As := []) (rest := [.ref h0]) ⟨hx, hb, hml, hown, hts⟩ (tX0_init l (dC, dI) h0 H.size) (cwI 0 hts (gw_1 hs cd_yX0_init) rfl rfl rfl (hts _ (hs _ in_X0)) (hts _ (hs _ ml_L_41)) (hts _ (hs _ im_yX0_init)) rfl (by decide +kernel) ⟨Nat.le_of_ble_eq_true rfl, Nat.le_of_ble_eq_true rfl⟩) ⟨fun a U g mk q => by obtain ⟨q0, q1, qP, qK, qD⟩ := q; exact ⟨q0, q1, qP, va_K.moved (u := U) (U := U.calling g mk a) (Vm.Alike.refl U.vm) qK, qD⟩, fun U hU hW => ⟨rfl, by rw [hU], by rw [hU]; exact hP, va_K.moved hW.alike hK, hD.weaken (fun _ _ _ _ => trivial)⟩⟩ rfl rfl hl.1 rfl (lv_room (Nat.le_of_ble_eq_true rfl)) dL_law_4 ⟨Nat.le_of_ble_eq_true rfl, Nat.le_of_ble_eq_true rfl⟩) hS (fun q _ h => hFc q h) hFc (fun _ t1 H1 locs ht hvm _ hB hz1 hk1 hS => ?_)
  obtain ⟨h1, cJ, hP1, hK1, hD1⟩ := hB
  rw [ht] at hP1
  have hK := va_K.moved hvm.symm hK1
  have hP : va_P (dC, dI) vwCl (wX h0 h1 cJ (fun _ => 0)) H1 := hP1
  have hD : va_D (gN s.heap.size) (wX h0 h1 cJ (fun _ => 0)) := hD1.weaken (fun _ q _ h => hFc q.1 h)
  clear hFc hk1 hz1 hP1 hD1 hK1
  refine W.widen (k := 2) (n := 9) (by omega) (by omega) ?_
  refine lv_astore_n (lv' := [(1, .ref h0), (0, .ref b)]) hx hb dL_law_7 rfl hl (by decide) rfl (fun ls hl => ?_)
  -- the reference
  refine va_new (ci := 1) (fs := [.int 0, .null, .null]) (C := RX1) (T := TX1) (N := 3) hx hb hts (fun w h => hs _ (inX1g w h)) tyX1 tyX1_ok hown (hts _ (hs _ cl_L_42)) (hts _ (hs _ nt_X1)) (hts _ (hs _ in_X1)) hK hP hD hS hA rfl (fun j hj => by rcases (show j = 0 ∨ j = 1 ∨ j = 2 by omega) with rfl | rfl | rfl <;> rfl) (Nat.le_of_ble_eq_true rfl) (Nat.le_of_ble_eq_true rfl) dL_law_8 (fun m0 H hP hD hS => ?_)
  have hP : va_P (dC, dI) vwCl [(h0, .inr (0, [.ref h1])), (h1, .inl (cJ, 8, .inr (.inl (fun _ => 0)))), (m0, .inr (1, [.int 0, .null, .null]))] H := hP
  have hD : va_D (gN s.heap.size) [(h0, .inr (0, [.ref h1])), (h1, .inl (cJ, 8, .inr (.inl (fun _ => 0)))), (m0, .inr (1, [.int 0, .null, .null]))] := hD
  refine W.widen (k := 3) (n := 12) (by omega) (by omega) ?_
  refine lv_dup hx hb dL_law_11 rfl ?_
  have hPc := hP.sub (ws' := [(m0, .inr (1, [.int 0, .null, .null]))]) [2] rfl
  have hDc := hD.sub (ws' := [(m0, .inr (1, [.int 0, .null, .null]))]) [2] (by decide) rfl
  have hKc2 := hK.sub (tys' := []) [] rfl
  have hFc := va_free (wc := [(m0, .inr (1, [.int 0, .null, .null]))]) hD hS hA [2] rfl
  refine va_callv (va_runI (As := []) (rest := [.ref m0]) ⟨hx, hb, hml, hown, hts⟩ (tX1_init l (dC, dI) m0 H.size) (cwI 0 hts (gw_1 hs cd_yX1_init) rfl rfl rfl (hts _ (hs _ in_X1)) (hts _ (hs _ ml_L_44)) (hts _ (hs _ im_yX1_init)) rfl (by decide +kernel) ⟨Nat.le_of_ble_eq_true rfl, Nat.le_of_ble_eq_true rfl⟩) ⟨fun a U g mk q => by obtain ⟨q0, q1, qP, qK, qD⟩ := q; exact ⟨q0, q1, qP, va_K.moved (u := U) (U := U.calling g mk a) (Vm.Alike.refl U.vm) qK, qD⟩, fun U hU hW => ⟨rfl, by rw [hU], by rw [hU]; exact hPc, va_K.moved hW.alike hKc2, hDc.weaken (fun _ _ _ _ => trivial)⟩⟩ rfl rfl hl.1 rfl (lv_room (Nat.le_of_ble_eq_true rfl)) dL_law_12 ⟨Nat.le_of_ble_eq_true rfl, Nat.le_of_ble_eq_true rfl⟩) hS (fun q _ h => hFc q h) hFc (fun _ t2 H2 locs ht hvm _ hB hz1 hk1 hS => ?_)
  obtain ⟨m1, m2, cK, cI, hP1, hK1, hD1⟩ := hB
  rw [ht] at hP1
  have hK1 := va_K.moved hvm.symm hK1
  obtain ⟨hP, hD⟩ := va_join (wr := wX h0 h1 cJ (fun _ => 0)) (w1 := wM m0 m1 m2 cK cI (0, fun _ => 0, fun _ => 0)) hP hD [2] [0, 1] rfl rfl (by decide) (by decide) hk1 hFc hP1 hD1
  have hK := hK.app hK1
  clear hFc hk1 hz1 hP1 hD1 hK1 hPc hDc hKc2
  refine W.widen (k := 5) (n := 44) (by omega) (by omega) ?_
  refine lv_astore_n (lv' := [(2, .ref m0), (1, .ref h0), (0, .ref b)]) hx hb dL_law_15 rfl hl (by decide) rfl (fun ls hl => ?_)
  -- the row of one long
  refine lv_iconst (v := 1) hx hb dL_law_16 (by decide) ?_
  refine va_newa (atype := .long) hx hb (hts _ (hs _ ac_long)) rfl hK hP hD hS hA (N' := 1) (a0 := (1, .inr (.inl (fun _ => 0)))) (fun cA => rfl) (by decide) (by decide) (by decide) (Nat.le_of_ble_eq_true rfl) (Nat.le_of_ble_eq_true rfl) dL_law_17 (fun o0 cO H hK hP hD hS => ?_)
  have hP : va_P (dC, dI) vwCl (wA h0 h1 o0 m0 m1 m2 cJ cO cK cI (fun _ => 0) (fun _ => 0) (0, fun _ => 0, fun _ => 0)) H := hP.sub [0, 1, 5, 2, 3, 4] rfl
  have hD : va_D (gN s.heap.size) (wA h0 h1 o0 m0 m1 m2 cJ cO cK cI (fun _ => 0) (fun _ => 0) (0, fun _ => 0, fun _ => 0)) := hD.sub [0, 1, 5, 2, 3, 4] (by decide) rfl
  have hK : va_K (dC, dI) vwCl [(cJ, .long), (cO, .long), (cK, .long), (cI, .int)] s := hK.sub [0, 3, 1, 2] rfl
  refine lv_astore_n (lv' := [(3, .ref o0), (2, .ref m0), (1, .ref h0), (0, .ref b)]) hx hb dL_law_19 rfl hl (by decide) rfl (fun ls hl => ?_)
  refine lv_iconst (v := 0) hx hb dL_law_20 (by decide) ?_
  refine lv_istore (lv' := [(4, .int 0), (3, .ref o0), (2, .ref m0), (1, .ref h0), (0, .ref b)]) hx hb dL_law_21 hl (by decide) rfl (fun ls hl => ?_)
  refine W.widen (k := 6 + 0) (n := 45 + 6 * 0) (by omega) (by omega) ?_
  exact law_loop hnt hL C0 hE hK (L + 1) 0 (fun _ => 0) (fun _ => 0) (0, fun _ => 0, fun _ => 0) H _ ls (by omega) (by omega) (fun _ _ => gBd_0) rfl hP hD hS (lv_sub hl [4, 3, 2, 1, 0] rfl)
end
section
set_option maxHeartbeats 4000000 in
theorem lw_walk (l : Launch) (hnt : l.stackTraces = false) (b : Addr) (xs : List Int32) : MetFree l x (headSpec (Jvm.Cond.code x code maxLocals ret :: tables_1) room_1) (lw_P b xs) (fun _ _ _ _ _ => True) lw_Q := by
  refine MetFree.of_bodyS (code := code) (maxLocals := maxLocals) (ret := ret) (by decide) ?_ ?_
  · intro args s m h hn
    obtain ⟨meth, c, h1, h2, h3, h4, h5, h6, -, -⟩ := Cond.code_spec hn (atoms_spec (ws := Jvm.Cond.code x code maxLocals ret :: tables_1) h _ List.mem_cons_self)
    exact ⟨meth, c, h1, h2, h3, h4, h5, h6⟩
  · intro p e s m args below meth c s₁ B hml0 hP _
    obtain ⟨rfl, hx, hbd, hgv⟩ := hP
    obtain ⟨scr, harrAt, hlist, hof, hsmall⟩ := hx
    obtain ⟨hcb, hkn, -, -⟩ := State.arrayAt?_spec harrAt
    have hown : s.vm.findClass R_law = some m.cls := findClass_of_methodNamed B.named
    have hts0 : ∀ c ∈ (Jvm.Cond.code x code maxLocals ret :: tables_1), c.before #[Value.ref b] s = true := atoms_spec (ws := Jvm.Cond.code x code maxLocals ret :: tables_1) B.pre
    have hts : ∀ w ∈ lw_tbl, w.before #[Value.ref b] s = true := k2_hts_sels lw_privs (fun w hw => hts0 w (List.mem_cons_of_mem _ hw)) lw_privs_ok
    have hml : c.maxLocals = 8 := B.maxLocals_eq (hts0 _ List.mem_cons_self)
    have X₀ : Stand p l e room_1 s m #[Value.ref b] below meth c s₁ [] 0 0 := Stand.of_body B
    have hh0 : s₁.heap = s.heap := by rw [B.state]; rfl
    have hsz : scr.slots.size = xs.length := by rw [← Array.length_toList, hlist, List.length_map]
    have hval : ∀ j : Nat, j < xs.length → scr.slots[j]? = some (.int (xs.getD j 0)) := fun j hj => by
      rw [← Array.getElem?_toList, hlist]
      simp [hj]
    have hbl : b < s.heap.size := (Array.getElem?_eq_some_iff.mp hcb).1
    have hX : va_X b xs.length (fun j => xs.getD j 0) s s.heap := ⟨scr, hcb, hof, hkn, hsz, hval⟩
    have K : W p l e room_1 s m #[Value.ref b] below meth c s₁.heap [] 0 0 (lw_Z below #[Value.ref b] s) (entryFrame m ([Value.ref b] : List Value).toArray 8) := by
      rw [hh0]
      exact whole_start l hnt hbd ⟨B.exec, B.bytes, B.returns, hml, hown, hts, hX, hbl, B.notSynchronized, hgv⟩
    obtain ⟨t, a1, o, b1, b2, b3⟩ := K s₁ rfl X₀
    exact ⟨t, o, a1, b1, b2, b3⟩
theorem lw_pre_spec {args : Array Value} {s : State} (h : (Jvm.Cond.and given_1 narrow_1).before args s = true) (hr : rest_1_c.before args s = true) : ∃ (b : Addr) (xs : List Int32), lw_P b xs args s := by
  have hs := flat_of_before _ h
  have hq := flat_of_before _ hr
  have hc : (Cond.count 1).before args s = true := hs _ (by decide +kernel)
  have harr : (Cond.arrayOf (.arg 0) .int).before args s = true := hs _ (by decide +kernel)
  have hle : (Cond.le (.length (.arg 0)) (.int 2560)).before args s = true := hs _ (by decide +kernel)
  have hlen : (Cond.isInt (.length (.arg 0))).before args s = true := hq _ (by decide +kernel)
  have hall : (Cond.all (.arg 0) (.isInt (.elem (.arg 0) (.index 0)))).before args s = true := hq _ (by decide +kernel)
  obtain ⟨b, xs, hb, hx⟩ := State.ints_of_pre rfl harr hlen hall
  have hsm : xs.length < 2 ^ 31 := hx.choose_spec.2.2.2
  have hev : (Term.length (.arg 0)).eval args s none [] s = some (.int xs.length.toInt32) := hx.length_eval hb
  have hv := Cond.le_ints hev (show (Term.int 2560).eval args s none [] s = some (.int 2560) from rfl)
  have hd : xs.length.toInt32 ≤ 2560 := by
    simpa [Cond.before, Cond.holds, hv] using hle
  have hN : xs.length ≤ 2560 := (Int32.ofNat_le_ofNat hsm (by decide)).mp (show Int32.ofNat xs.length ≤ Int32.ofNat 2560 from hd)
  exact ⟨b, xs, Cond.one_arg hc (show args[0]? = some (.ref b) from hb), hx, hN, h⟩
theorem lw_comes (l : Launch) (hnt : l.stackTraces = false) : Comes l x (Jvm.Cond.code x code maxLocals ret :: tables_1) room_1 (fun tb e args s => Calls_1 tb e args s ∧ rest_1 tb e args s ∧ Pre_1 tb e args s)
    (fun _ _ args s o t => lw_Q args s o t) := by
  intro p e ha hc hk s m args below hf hfit hheap happ hpre
  obtain ⟨b, xs, hP⟩ := lw_pre_spec hpre.2.2 hpre.2.1
  obtain ⟨k, o, h1, h2, h3, hQ⟩ := lw_walk l hnt b xs p e ha hc hk s m args below hf ((Spec.applies_iff_loose hf).mp happ).1 hP trivial
  exact ⟨k, o, h1, h2, h3, hQ⟩
theorem lw_frame {s t : State} {o : Outcome} {args : Array Value} (h : Framed s o t [] 1040 8297) :
    Framed s o t (fieldLocs frame_1_writes args s ++ arrayLocs frame_1_arrays args s ++ staticLocs frame_1_statics s) 1040 8297 := h
theorem lw_limb (L : Cond) (hL : ∀ (args : Array Value) (s t : State), L.after args s (.returned (some (.int 1))) t = true) :
    ArmFor flags0 classFile x code maxLocals ret World_1 tables_1 room_1 Calls_1 rest_1 Pre_1
      (fun tb e a s o t => postC L tb e a s o t ∧ Framed s o t (fieldLocs frame_1_writes a s ++ arrayLocs frame_1_arrays a s ++ staticLocs frame_1_statics s) 1040 8297) := by
  intro l hfl _ _ p e ha hc hk s m args below hf hfit hheap happ hpre
  have hnt : l.stackTraces = false := by
    unfold Launch.stackTraces
    rw [hfl]
    decide +kernel
  obtain ⟨k, o, h1, h2, h3, rfl, hF⟩ := lw_comes l hnt p e ha hc hk s m args below hf hfit hheap happ hpre
  exact ⟨k, _, h1, h2, h3, hL args s _, lw_frame hF⟩
theorem i_vc : Claimed_1_1 ∧ Claimed_1_2 := ⟨lw_limb limb_1_1 (fun args s t => by simp [limb_1_1, Cond.after, Cond.holds, Cond.value]), lw_limb limb_1_2 (fun args s t => Cond.after_iff.mpr (by
  first | (rw [show limb_1_2 = Cond.eq .result (.int 1) from rfl, Cond.eq_ints (x := 1) (y := 1) rfl rfl]; simp; done) | (simp [limb_1_2, Cond.value, Term.eval]; done)))⟩
end
