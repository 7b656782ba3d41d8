/-! ===== the class's object: its cells, its contract ===== -/
/-- a desk: the object and its eight registers -/
abbrev wX (h0 h1 : Nat) (cJ : ClassId) (f : Nat → Int64) : va_W := [(h0, .inr (0, [.ref h1])), (h1, .inl (cJ, 8, .inr (.inl f)))]
abbrev gXPre (t : Nat) (D : va_G) (h0 h1 : Nat) (cJ : ClassId) (f : Nat → Int64) (sz : Nat) (As : List Value) : Array Value → State → Prop :=
  va_Pc (.ref h0 :: As) (fun U => U.heap.size = sz ∧ gE t (va_A (wX h0 h1 cJ f) sz) U U.heap ∧ va_P D vwCl (wX h0 h1 cJ f) U.heap ∧ va_K D vwCl [(cJ, .long)] U ∧ va_D (fun _ => True) (wX h0 h1 cJ f))
theorem gXPre_blind (t : Nat) (D : va_G) (h0 h1 : Nat) (cJ : ClassId) (f : Nat → Int64) (sz : Nat) (As : List Value) : FrameBlind (gXPre t D h0 h1 cJ f sz As) := fun a U g mk q =>
  ⟨q.1, q.2.1, (show gE t (va_A (wX h0 h1 cJ f) sz) _ U.heap from gE.same (u := U) rfl q.2.2.1), q.2.2.2.1, va_K.moved (u := U) (U := U.calling g mk a) (Vm.Alike.refl U.vm) q.2.2.2.2.1, q.2.2.2.2.2⟩
/-- the world behind: registers f' -/
abbrev gXB (D : va_G) (h0 h1 : Nat) (cJ : ClassId) (f : Nat → Int64) (sz : Nat) : (Nat → Int64) → State → Prop := fun f' t' => va_P D vwCl (wX h0 h1 cJ f') t'.heap ∧ va_K D vwCl [(cJ, .long)] t' ∧ va_D (va_A (wX h0 h1 cJ f) sz) (wX h0 h1 cJ f')
def gXl (l : Launch) (y : MethodName) (b : ByteArray) (n : Nat) (rm : Room) (t : Nat) (D : va_G) (h0 h1 : Nat) (cJ : ClassId) (f : Nat → Int64) (As : List Value) (post : Int64 → (Nat → Int64) → Prop) (xp : String → Prop) : Prop :=
  ∀ sz, vx_Met l y (Cond.code y b n (some .long) :: gws) rm (gXPre t D h0 h1 cJ f sz As) (va_Ql post (gXB D h0 h1 cJ f sz) (va_A (wX h0 h1 cJ f) sz)) (gXC xp sz) rm.cells rm.slots (va_A (wX h0 h1 cJ f) sz)
def gXi (l : Launch) (y : MethodName) (b : ByteArray) (n : Nat) (rm : Room) (t : Nat) (D : va_G) (h0 h1 : Nat) (cJ : ClassId) (f : Nat → Int64) (As : List Value) (post : Int32 → (Nat → Int64) → Prop) (xp : String → Prop) : Prop :=
  ∀ sz, vx_Met l y (Cond.code y b n (some .int) :: gws) rm (gXPre t D h0 h1 cJ f sz As) (va_Qi post (gXB D h0 h1 cJ f sz) (va_A (wX h0 h1 cJ f) sz)) (gXC xp sz) rm.cells rm.slots (va_A (wX h0 h1 cJ f) sz)
theorem g_openXl {l : Launch} {y : MethodName} {b : ByteArray} {n : Nat} {rm : Room} {t : Nat} {D : va_G} {h0 h1 : Nat} {cJ : ClassId} {f : Nat → Int64} {As : List Value} {post : Int64 → (Nat → Int64) → Prop} {xp : String → Prop} (hy : plainName y.cls = true) (hn : (lg_sl (.ref h0 :: As)).length ≤ n)
    (body : ∀ (p : Program) (e : Env) (s : State) (m : MethodId) (below : List Frame) (meth : Method) (c : Code) (ls : Array Slot) (A : Nat → Prop), A = va_A (wX h0 h1 cJ f) s.heap.size → (∀ q, s.heap.size ≤ q → A q) → CallFix p m c b n s (Value.ref h0 :: As).toArray (Cond.code y b n (some .long) :: gws) y.cls → meth.sig.returnType = some .long → meth.locks = false → (∀ x ∈ c.exceptionTable.toList, False) → gE t (gN s.heap.size) s s.heap → va_P D vwCl (wX h0 h1 cJ f) s.heap → va_K D vwCl [(cJ, .long)] s → va_D A (wX h0 h1 cJ f) → lv_has ls n (lv_args 0 (.ref h0 :: As)) →
      W p l e rm s m (Value.ref h0 :: As).toArray below meth c s.heap [] 0 0 (vx_MQ below (va_Ql post (fun f' t' => va_P D vwCl (wX h0 h1 cJ f') t'.heap ∧ va_K D vwCl [(cJ, .long)] t' ∧ va_D A (wX h0 h1 cJ f')) A) (gXC xp s.heap.size) (Value.ref h0 :: As).toArray s rm.cells rm.slots A) (F0 m 0 ls [])) : gXl l y b n rm t D h0 h1 cJ f As post xp := by
  intro sz
  refine vx_ofW (cc := b) (maxL := n) (ret := some .long) hy rfl ?_
  intro p e s m args below meth c s₁ B hml hout hv
  obtain ⟨rfl, hsz, hE, hP, hK, hD⟩ := hv
  subst hsz
  rw [lg_entry_eq]
  exact body p e s m below meth c _ _ rfl (fun q h => Or.inr h) ⟨B.exec, B.bytes, hml, findClass_of_methodNamed B.named, atoms_spec (ws := Cond.code y b n (some .long) :: gws) B.pre⟩ B.returns B.notSynchronized hout (hE.narrow (fun q h => Or.inr h)) hP hK hD.self (lv_entry (.ref h0 :: As) hn)
theorem g_openXi {l : Launch} {y : MethodName} {b : ByteArray} {n : Nat} {rm : Room} {t : Nat} {D : va_G} {h0 h1 : Nat} {cJ : ClassId} {f : Nat → Int64} {As : List Value} {post : Int32 → (Nat → Int64) → Prop} {xp : String → Prop} (hy : plainName y.cls = true) (hn : (lg_sl (.ref h0 :: As)).length ≤ n)
    (body : ∀ (p : Program) (e : Env) (s : State) (m : MethodId) (below : List Frame) (meth : Method) (c : Code) (ls : Array Slot) (A : Nat → Prop), A = va_A (wX h0 h1 cJ f) s.heap.size → (∀ q, s.heap.size ≤ q → A q) → CallFix p m c b n s (Value.ref h0 :: As).toArray (Cond.code y b n (some .int) :: gws) y.cls → meth.sig.returnType = some .int → meth.locks = false → (∀ x ∈ c.exceptionTable.toList, False) → gE t (gN s.heap.size) s s.heap → va_P D vwCl (wX h0 h1 cJ f) s.heap → va_K D vwCl [(cJ, .long)] s → va_D A (wX h0 h1 cJ f) → lv_has ls n (lv_args 0 (.ref h0 :: As)) →
      W p l e rm s m (Value.ref h0 :: As).toArray below meth c s.heap [] 0 0 (vx_MQ below (va_Qi post (fun f' t' => va_P D vwCl (wX h0 h1 cJ f') t'.heap ∧ va_K D vwCl [(cJ, .long)] t' ∧ va_D A (wX h0 h1 cJ f')) A) (gXC xp s.heap.size) (Value.ref h0 :: As).toArray s rm.cells rm.slots A) (F0 m 0 ls [])) : gXi l y b n rm t D h0 h1 cJ f As post xp := by
  intro sz
  refine vx_ofW (cc := b) (maxL := n) (ret := some .int) hy rfl ?_
  intro p e s m args below meth c s₁ B hml hout hv
  obtain ⟨rfl, hsz, hE, hP, hK, hD⟩ := hv
  subst hsz
  rw [lg_entry_eq]
  exact body p e s m below meth c _ _ rfl (fun q h => Or.inr h) ⟨B.exec, B.bytes, hml, findClass_of_methodNamed B.named, atoms_spec (ws := Cond.code y b n (some .int) :: gws) B.pre⟩ B.returns B.notSynchronized hout (hE.narrow (fun q h => Or.inr h)) hP hK hD.self (lv_entry (.ref h0 :: As) hn)
theorem isReg_in {r : Int32} (h : ¬ jX0_isRegister r = 0) : vp_in r 8 := by
  unfold jX0_isRegister at h
  split at h
  · exact absurd rfl h
  · split at h
    · exact absurd rfl h
    next h1 h2 =>
      rcases pk_ix r (n := 8) (by decide) with q | q | ⟨j, hj, rfl⟩
      · exact absurd q h1
      · exact absurd q h2
      · exact vp_in_nI hj (by decide)
theorem g_ixD {d : Int32} (h1 : ¬ d < (-9 : Int32)) (h2 : d ≤ (4 : Int32)) : vp_in ((4 : Int32) - d) 14 := by
  rw [vp_in_iff]
  have a1 := Int32.not_lt.mp h1
  rw [Int32.le_iff_toInt_le] at a1 h2
  have e1 : (-9 : Int32).toInt = -9 := by decide
  have e2 : (4 : Int32).toInt = 4 := by decide
  rw [e1] at a1
  rw [e2] at h2
  have e3 : ((4 : Int32) - d).toInt = 4 - d.toInt := by
    rw [Int32.toInt_sub, e2]
    exact Int.bmod_eq_of_le (by omega) (by omega)
  rw [e3]
  omega
theorem g_ixE {i : Int32} (h1 : (0 : Int32) ≤ i) (h2 : ¬ i = (0 : Int32)) : ¬ i - (1 : Int32) < 0 := by
  obtain ⟨j, hj, rfl⟩ := nI_of (Int32.not_lt.mpr h1)
  have hj0 : j ≠ 0 := fun e => h2 (by rw [e]; rfl)
  rw [show (1 : Int32) = nI 1 from by decide, pk_sub (by omega)]
  exact nI_pos (by omega)
