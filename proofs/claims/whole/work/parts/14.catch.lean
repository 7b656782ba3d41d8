/-! ===== the law's own seven: they call the class and catch ===== -/
theorem jbind_out {α : Type} {x : String ⊕ Int64} {f : Int64 → String ⊕ α} {E : String} (h : jbind x f = .inl E) : x = .inl E ∨ ∃ r, x = .inr r ∧ f r = .inl E := by
  cases x with
  | inl E' => exact Or.inl (by rw [jbind_inl] at h; rw [Sum.inl.inj h])
  | inr r => exact Or.inr ⟨r, rfl, h⟩
theorem jset_out {f : Nat → Int64} {r : Int32} {n : Int64} {E : String} (h : jset f r n = .inl E) : E = gIAE := by
  unfold jset at h
  split at h
  · exact (Sum.inl.inj h).symm
  · split at h
    · exact (Sum.inl.inj h).symm
    · cases h
theorem jget_out {f : Nat → Int64} {r : Int32} {E : String} (h : jget f r = .inl E) : E = gIAE := by
  unfold jget at h
  split at h
  · exact (Sum.inl.inj h).symm
  · cases h
theorem jprint_out {f : Nat → Int64} {a i : Int32} {E : String} (h : jprint f a i = .inl E) : E = gIAE := by
  unfold jprint at h
  split at h
  · exact (Sum.inl.inj h).symm
  · split at h
    · split at h
      · split at h <;> cases h
      · cases h
    · exact (Sum.inl.inj h).symm
theorem jlimited_out {v : Int64} {E : String} (h : jlimited v = .inl E) : E = gAE := by
  unfold jlimited at h
  split at h
  · exact (Sum.inl.inj h).symm
  · cases h
theorem jprodS_out {x y : Int64} {E : String} (h : jprodS x y = .inl E) : E = gAE := by
  unfold jprodS at h
  split at h
  · cases h
  · split at h
    · cases h
    · exact (Sum.inl.inj h).symm
theorem jprod_out {x y : Int64} {E : String} (h : jprod x y = .inl E) : E = gAE := by
  unfold jprod at h
  rcases jbind_out h with q | ⟨r, -, q⟩
  · exact jprodS_out q
  · split at q
    · split at q <;> cases q
    · split at q <;> cases q
theorem jreckoned_out {op : Int32} {x y : Int64} {E : String} (h : jreckoned op x y = .inl E) : E = gUOE ∨ E = gAE := by
  have key : ∀ {z : Int64}, (jbind (jprod x z) fun r => (.inr r : String ⊕ Int64)) = .inl E → E = gAE := by
    intro z q
    rcases jbind_out q with q | ⟨r, -, q⟩
    · exact jprod_out q
    · cases q
  unfold jreckoned at h
  split at h
  · split at h
    · exact Or.inl (Sum.inl.inj h).symm
    · split at h
      · exact Or.inl (Sum.inl.inj h).symm
      · split at h
        · cases h
        · split at h
          · cases h
          · split at h
            · exact Or.inr (key h)
            · cases h
  · split at h
    · cases h
    · split at h
      · cases h
      · split at h
        · exact Or.inr (key h)
        · split at h <;> cases h
theorem jreckon_out {f : Nat → Int64} {r op a b : Int32} {E : String} (h : jreckon f r op a b = .inl E) : E = gIAE ∨ E = gUOE ∨ E = gAE := by
  unfold jreckon at h
  split at h
  · exact Or.inl (Sum.inl.inj h).symm
  · split at h
    · exact Or.inl (Sum.inl.inj h).symm
    · split at h
      · exact Or.inl (Sum.inl.inj h).symm
      · split at h
        · exact Or.inl (Sum.inl.inj h).symm
        · split at h
          · rcases jbind_out h with q | ⟨v, -, q⟩
            · exact Or.inr (jreckoned_out q)
            · rcases jbind_out q with q | ⟨v, -, q⟩
              · exact Or.inr (Or.inr (jlimited_out q))
              · cases q
          · exact Or.inl (Sum.inl.inj h).symm
theorem jturn_out {f : Nat → Int64} {r op a : Int32} {E : String} (h : jturn f r op a = .inl E) : E = gIAE ∨ E = gAE := by
  unfold jturn at h
  split at h
  · exact Or.inl (Sum.inl.inj h).symm
  · split at h
    · exact Or.inl (Sum.inl.inj h).symm
    · split at h
      · exact Or.inl (Sum.inl.inj h).symm
      · split at h
        · rcases jbind_out h with q | ⟨v, -, q⟩
          · exact Or.inr (jlimited_out q)
          · cases q
        · exact Or.inl (Sum.inl.inj h).symm
theorem jround_out {f : Nat → Int64} {r a d : Int32} {E : String} (h : jround f r a d = .inl E) : E = gIAE ∨ E = gAE := by
  unfold jround at h
  split at h
  · exact Or.inl (Sum.inl.inj h).symm
  · split at h
    · exact Or.inl (Sum.inl.inj h).symm
    · split at h
      · exact Or.inl (Sum.inl.inj h).symm
      · split at h
        · rcases jbind_out h with q | ⟨v, -, q⟩
          · exact Or.inr (jlimited_out q)
          · cases q
        · exact Or.inl (Sum.inl.inj h).symm
theorem javgF_out {f : Nat → Int64} {n : Nat} {E : String} : ∀ i k v, javgF f n i k v = .inl E → E = gAE
  | 0, _, _, h => by cases h
  | i + 1, k, v, h => by
    rw [javgF] at h
    split at h
    · rcases jbind_out h with q | ⟨v, -, q⟩
      · exact jlimited_out q
      · exact javgF_out i (k + 1) v q
    · cases h
theorem javerage_out {f : Nat → Int64} {n : Int32} {E : String} (h : javerage f n = .inl E) : E = gIAE ∨ E = gAE := by
  unfold javerage at h
  split at h
  · exact Or.inl (Sum.inl.inj h).symm
  · split at h
    · rcases jbind_out h with q | ⟨v, -, q⟩
      · exact Or.inr (javgF_out _ _ _ q)
      · cases q
    · exact Or.inl (Sum.inl.inj h).symm
/-- the desk and the law's row of one long -/
abbrev wL (h0 h1 o0 : Nat) (cJ cO : ClassId) (f g : Nat → Int64) : va_W := [(h0, .inr (0, [.ref h1])), (h1, .inl (cJ, 8, .inr (.inl f))), (o0, .inl (cO, 1, .inr (.inl g)))]
abbrev gLPre (t : Nat) (D : va_G) (h0 h1 o0 : Nat) (cJ cO : ClassId) (f g : Nat → Int64) (sz : Nat) (As : List Value) : Array Value → State → Prop :=
  va_Pc As (fun U => U.heap.size = sz ∧ gE t (va_A (wL h0 h1 o0 cJ cO f g) sz) U U.heap ∧ va_P D vwCl (wL h0 h1 o0 cJ cO f g) U.heap ∧ va_K D vwCl [(cJ, .long), (cO, .long)] U ∧ va_D (fun _ => True) (wL h0 h1 o0 cJ cO f g))
theorem gLPre_blind (t : Nat) (D : va_G) (h0 h1 o0 : Nat) (cJ cO : ClassId) (f g : Nat → Int64) (sz : Nat) (As : List Value) : FrameBlind (gLPre t D h0 h1 o0 cJ cO f g sz As) := fun a U g' mk q =>
  ⟨q.1, q.2.1, (show gE t (va_A (wL h0 h1 o0 cJ cO f g) sz) _ U.heap from gE.same (u := U) rfl q.2.2.1), q.2.2.2.1, va_K.moved (u := U) (U := U.calling g' mk a) (Vm.Alike.refl U.vm) q.2.2.2.2.1, q.2.2.2.2.2⟩
/-- what a call of the class comes to: a code and the registers; with code 0 the answer lies in the row -/
def gRes (res : String ⊕ (Int64 × (Nat → Int64))) (code : String → Int32) (f : Nat → Int64) (k : Int32) (q : (Nat → Int64) × (Nat → Int64)) : Prop :=
  (∃ (v : Int64) (f1 : Nat → Int64), res = .inr (v, f1) ∧ k = 0 ∧ q.1 = f1 ∧ q.2 0 = v) ∨ (∃ E : String, res = .inl E ∧ k = code E ∧ q.1 = f)
def gL (l : Launch) (y : MethodName) (b : ByteArray) (n : Nat) (hh : List (Nat × Nat × Nat × Nat)) (rm : Room) (t : Nat) (D : va_G) (h0 h1 o0 : Nat) (cJ cO : ClassId) (f g : Nat → Int64) (As : List Value) (res : String ⊕ (Int64 × (Nat → Int64))) (code : String → Int32) : Prop :=
  ∀ sz, Met l y (Cond.codeWith y b n (some .int) hh :: gws) rm (gLPre t D h0 h1 o0 cJ cO f g sz As) (va_Qi (gRes res code f) (fun q t' => va_P D vwCl (wL h0 h1 o0 cJ cO q.1 q.2) t'.heap ∧ va_K D vwCl [(cJ, .long), (cO, .long)] t' ∧ va_D (va_A (wL h0 h1 o0 cJ cO f g) sz) (wL h0 h1 o0 cJ cO q.1 q.2)) (va_A (wL h0 h1 o0 cJ cO f g) sz)) rm.cells rm.slots (va_A (wL h0 h1 o0 cJ cO f g) sz)
section GX
variable {p : Program} {l : Launch} {e : Env} {R : Room} {s : State} {m : MethodId} {args : Array Value} {below : List Frame} {meth : Method} {c : Code} {H : Heap} {locs : List Loc} {cells slots : Nat} {Q : State → Prop}
variable {cc : ByteArray} {pc : Nat} {ls : Array Slot} {rest st0 : List Value} {A0 : Nat → Prop} {Ts : List Cond} {own : String} {nL : Nat}
variable {y : MethodName} {b : ByteArray} {n index t : Nat} {rm : Room} {As : List Value} {D : va_G} {h0 h1 o0 : Nat} {cJ cO : ClassId} {f g : Nat → Int64}
theorem g_callXl {post : Int64 → (Nat → Int64) → Prop} {xp : String → Prop} (S : CallFix p m c cc nL s args Ts own) (hs : ∀ w ∈ gws, w ∈ Ts) (hM : gXl l y b n rm t D h0 h1 cJ f As post xp) (hyc : y.cls = RX0)
    (k1 : Cond.methodLink own index y ∈ gws) (k2 : Cond.instanceMethod y ∈ gws) (k3 : Cond.selects RX0 y y ∈ gws) (k4 : Cond.code y b n (some .long) ∈ gws)
    (hd : y.cls ≠ "java/lang/invoke/MethodHandle" ∧ y.cls ≠ "java/lang/invoke/VarHandle" ∧ (parseMethodDescriptor y.desc).map (fun d => d.parameters.length) = some As.length)
    (hR : rm.frames + 1 ≤ R.frames ∧ 8 + (n + 11) + rm.locals ≤ R.locals) (hE : gE t A0 s s.heap) (hS : va_S A0 s.heap H locs) (hA : ∀ q, s.heap.size ≤ q → A0 q) (hP : va_P D vwCl (wL h0 h1 o0 cJ cO f g) H) (hK : va_K D vwCl [(cJ, .long), (cO, .long)] s) (hD : va_D A0 (wL h0 h1 o0 cJ cO f g)) (hsize : ls.size = nL)
    (hstack : st0 = As.reverse ++ .ref h0 :: rest) (hW : (rest.map fun v => v.category).sum ≤ 8) (hf : cells + rm.cells ≤ R.cells ∧ slots + rm.slots ≤ R.slots) (hdg : decode cc pc = .ok (.invokevirtual index, 3))
    (kx : ∀ (E : String) (ce : Cell) (q9 : Addr) (H1 : Heap) (locs1 : List Loc), xp E → va_P D vwCl (wL h0 h1 o0 cJ cO f g) H1 → va_S A0 s.heap H1 locs1 → H1[q9]? = some ce → ce.vm = .none → s.vm.findClass E = some ce.cls → vx_W p l e R s m args below meth c H1 locs1 (cells + rm.cells) (slots + rm.slots) Q (F0 m pc ls rest) q9)
    (kk : ∀ (r : Int64) (f' : Nat → Int64) (H1 : Heap) (locs1 : List Loc), post r f' → va_P D vwCl (wL h0 h1 o0 cJ cO f' g) H1 → va_D A0 (wL h0 h1 o0 cJ cO f' g) → va_S A0 s.heap H1 locs1 → W p l e R s m args below meth c H1 locs1 (cells + rm.cells) (slots + rm.slots) Q (F0 m (pc + 3) ls (.long r :: rest))) :
    W p l e R s m args below meth c H locs cells slots Q (F0 m pc ls st0) := by
  have hPc := hP.sub (ws' := wX h0 h1 cJ f) [0, 1] rfl
  have hDc := hD.sub (ws' := wX h0 h1 cJ f) [0, 1] (by decide) rfl
  have hKc := hK.sub (tys' := [(cJ, .long)]) [0] rfl
  have hFc := va_free (wc := wX h0 h1 cJ f) hD hS hA [0, 1] rfl
  have hpre : PreV s H RX0 h0 (gXPre t D h0 h1 cJ f H.size As) As := ⟨gXPre_blind t D h0 h1 cJ f H.size As, va_recv hKc hPc (ci := 0) (q0 := 0) rfl rfl, fun U hU hW => ⟨rfl, by rw [hU], by rw [hU]; exact ((hE.kept hS.2.1).narrow hFc).warm hW, by rw [hU]; exact hPc, va_K.moved hW.alike hKc, hDc.weaken (fun _ _ _ _ => trivial)⟩⟩
  refine vx_calll (vx_runV (As := As) (rest := rest) (g := F0 m pc ls st0) S (hM H.size) (cwV As.length S.2.2.2.2 (gw_V hs k1 k2 k3 in_X0 k4) rfl rfl rfl ⟨hyc, hd⟩ hR) hpre rfl rfl hsize hstack (lv_room hW) hdg hf) hS (fun q _ h => hFc q h) hFc (fun q _ h => g_free hS hA q h)
    (fun E ce q9 _ t' H1 locs1 ht hal _ hx hz hk hS1 hce hcv hcl => kx E ce q9 H1 locs1 hx (g_keep hP (fun q hq => hk q hq (g_lt hq))) hS1 hce hcv hcl)
    (fun r f' t' H1 locs1 ht hvm hp hB hz hk hS1 => ?_)
  obtain ⟨hP1, hK1, hD1⟩ := hB
  rw [ht] at hP1
  obtain ⟨hP2, hD2⟩ := va_join (wr := [(o0, .inl (cO, 1, .inr (.inl g)))]) (w1 := wX h0 h1 cJ f') hP hD [0, 1] [2] rfl rfl (by decide) (by decide) hk hFc hP1 hD1
  exact kk r f' H1 locs1 hp (hP2.sub [1, 2, 0] rfl) (hD2.sub [1, 2, 0] (by decide) rfl) hS1
theorem g_callXi {post : Int32 → (Nat → Int64) → Prop} {xp : String → Prop} (S : CallFix p m c cc nL s args Ts own) (hs : ∀ w ∈ gws, w ∈ Ts) (hM : gXi l y b n rm t D h0 h1 cJ f As post xp) (hyc : y.cls = RX0)
    (k1 : Cond.methodLink own index y ∈ gws) (k2 : Cond.instanceMethod y ∈ gws) (k3 : Cond.selects RX0 y y ∈ gws) (k4 : Cond.code y b n (some .int) ∈ gws)
    (hd : y.cls ≠ "java/lang/invoke/MethodHandle" ∧ y.cls ≠ "java/lang/invoke/VarHandle" ∧ (parseMethodDescriptor y.desc).map (fun d => d.parameters.length) = some As.length)
    (hR : rm.frames + 1 ≤ R.frames ∧ 8 + (n + 11) + rm.locals ≤ R.locals) (hE : gE t A0 s s.heap) (hS : va_S A0 s.heap H locs) (hA : ∀ q, s.heap.size ≤ q → A0 q) (hP : va_P D vwCl (wL h0 h1 o0 cJ cO f g) H) (hK : va_K D vwCl [(cJ, .long), (cO, .long)] s) (hD : va_D A0 (wL h0 h1 o0 cJ cO f g)) (hsize : ls.size = nL)
    (hstack : st0 = As.reverse ++ .ref h0 :: rest) (hW : (rest.map fun v => v.category).sum ≤ 8) (hf : cells + rm.cells ≤ R.cells ∧ slots + rm.slots ≤ R.slots) (hdg : decode cc pc = .ok (.invokevirtual index, 3))
    (kx : ∀ (E : String) (ce : Cell) (q9 : Addr) (H1 : Heap) (locs1 : List Loc), xp E → va_P D vwCl (wL h0 h1 o0 cJ cO f g) H1 → va_S A0 s.heap H1 locs1 → H1[q9]? = some ce → ce.vm = .none → s.vm.findClass E = some ce.cls → vx_W p l e R s m args below meth c H1 locs1 (cells + rm.cells) (slots + rm.slots) Q (F0 m pc ls rest) q9)
    (kk : ∀ (r : Int32) (f' : Nat → Int64) (H1 : Heap) (locs1 : List Loc), post r f' → va_P D vwCl (wL h0 h1 o0 cJ cO f' g) H1 → va_D A0 (wL h0 h1 o0 cJ cO f' g) → va_S A0 s.heap H1 locs1 → W p l e R s m args below meth c H1 locs1 (cells + rm.cells) (slots + rm.slots) Q (F0 m (pc + 3) ls (.int r :: rest))) :
    W p l e R s m args below meth c H locs cells slots Q (F0 m pc ls st0) := by
  have hPc := hP.sub (ws' := wX h0 h1 cJ f) [0, 1] rfl
  have hDc := hD.sub (ws' := wX h0 h1 cJ f) [0, 1] (by decide) rfl
  have hKc := hK.sub (tys' := [(cJ, .long)]) [0] rfl
  have hFc := va_free (wc := wX h0 h1 cJ f) hD hS hA [0, 1] rfl
  have hpre : PreV s H RX0 h0 (gXPre t D h0 h1 cJ f H.size As) As := ⟨gXPre_blind t D h0 h1 cJ f H.size As, va_recv hKc hPc (ci := 0) (q0 := 0) rfl rfl, fun U hU hW => ⟨rfl, by rw [hU], by rw [hU]; exact ((hE.kept hS.2.1).narrow hFc).warm hW, by rw [hU]; exact hPc, va_K.moved hW.alike hKc, hDc.weaken (fun _ _ _ _ => trivial)⟩⟩
  refine vx_calli (vx_runV (As := As) (rest := rest) (g := F0 m pc ls st0) S (hM H.size) (cwV As.length S.2.2.2.2 (gw_V hs k1 k2 k3 in_X0 k4) rfl rfl rfl ⟨hyc, hd⟩ hR) hpre rfl rfl hsize hstack (lv_room hW) hdg hf) hS (fun q _ h => hFc q h) hFc (fun q _ h => g_free hS hA q h)
    (fun E ce q9 _ t' H1 locs1 ht hal _ hx hz hk hS1 hce hcv hcl => kx E ce q9 H1 locs1 hx (g_keep hP (fun q hq => hk q hq (g_lt hq))) hS1 hce hcv hcl)
    (fun r f' t' H1 locs1 ht hvm hp hB hz hk hS1 => ?_)
  obtain ⟨hP1, hK1, hD1⟩ := hB
  rw [ht] at hP1
  obtain ⟨hP2, hD2⟩ := va_join (wr := [(o0, .inl (cO, 1, .inr (.inl g)))]) (w1 := wX h0 h1 cJ f') hP hD [0, 1] [2] rfl rfl (by decide) (by decide) hk hFc hP1 hD1
  exact kk r f' H1 locs1 hp (hP2.sub [1, 2, 0] rfl) (hD2.sub [1, 2, 0] (by decide) rfl) hS1
end GX
theorem upd0 (g : Nat → Int64) (v : Int64) : vp_updL g (0 : Int32).toNatClampNeg v 0 = v := by rw [sb_cl0]; exact pk_uLs
def cod1 (_ : String) : Int32 := 1
def cod2 (E : String) : Int32 := if E = gIAE then 1 else 2
def cod3 (E : String) : Int32 := if E = gIAE then 1 else if E = gUOE then 2 else 3
/-- print's answer as a long -/
def jprintL (f : Nat → Int64) (a i : Int32) : String ⊕ (Int64 × (Nat → Int64)) := match jprint f a i with
  | .inl E => .inl E
  | .inr q => .inr (q.1.toInt64, q.2)
set_option maxHeartbeats 4000000 in
set_option maxRecDepth 100000 in
theorem tL_set (l : Launch) (hnt : l.stackTraces = false) (t : Nat) (D : va_G) (h0 h1 o0 : Nat) (cJ cO : ClassId) (f g : Nat → Int64) (r : Int32) (n : Int64) : gL l yL_set cL_set 6 [(0, 10, 13, 13)] { frames := 8, cells := 1, slots := 6, locals := 150 } t D h0 h1 o0 cJ cO f g [.ref h0, .int r, .long n, .ref o0] (jset f r n) cod1 := by
  intro sz
  refine va_MetW (cc := cL_set) (maxL := 6) (ret := some .int) (by decide) rfl ?_
  intro p e s m args below meth c s₁ B hml hv
  obtain ⟨rfl, hsz, hE, hP, hK, hD0⟩ := hv
  subst hsz
  have hx := B.exec
  have hb := B.bytes
  have hr := B.returns
  have hlocks := B.notSynchronized
  have hts := atoms_spec (ws := Cond.codeWith yL_set cL_set 6 (some .int) [(0, 10, 13, 13)] :: gws) B.pre
  have hs : ∀ w ∈ gws, w ∈ Cond.codeWith yL_set cL_set 6 (some .int) [(0, 10, 13, 13)] :: gws := fun w h => List.mem_cons_of_mem _ h
  have hown : s.vm.findClass RL = some m.cls := findClass_of_methodNamed B.named
  have hT : c.exceptionTable.toList = tableOf [(0, 10, 13, 13)] := vx_table (x := yL_set) B (hts _ List.mem_cons_self)
  have hD := hD0.self (sz := s.heap.size)
  generalize hAe : va_A (wL h0 h1 o0 cJ cO f g) s.heap.size = A at hD hE ⊢
  have hA : ∀ q : Nat, s.heap.size ≤ q → A q := fun q h => by rw [← hAe]; exact Or.inr h
  have hS : va_S A s.heap s.heap [] := va_S.rf
  rw [lg_entry_eq]
  have hl := lv_entry ([.ref h0, .int r, .long n, .ref o0] : List Value) (n := 6) (Nat.le_of_ble_eq_true rfl)
  generalize (lg_sl ([.ref h0, .int r, .long n, .ref o0] : List Value) ++ List.replicate (6 - (lg_sl ([.ref h0, .int r, .long n, .ref o0] : List Value)).length) Slot.unset).toArray = ls at hl ⊢
  have hl : lv_has ls 6 [(0, .ref h0), (1, .int r), (2, .long n), (4, .ref o0)] := hl
  have S : CallFix p m c cL_set 6 s ([.ref h0, .int r, .long n, .ref o0] : List Value).toArray (Cond.codeWith yL_set cL_set 6 (some .int) [(0, 10, 13, 13)] :: gws) RL := ⟨hx, hb, hml, hown, hts⟩
  refine lv_aload hx hb dL_set_0 (lv_at hl 3 rfl) ?_
  refine lv_iconst (v := 0) hx hb dL_set_2 (by decide) ?_
  refine lv_aload_n hx hb dL_set_3 rfl (lv_at hl 0 rfl) ?_
  refine lv_iload_n hx hb dL_set_4 rfl (lv_at hl 1 rfl) ?_
  refine lv_lload_n hx hb dL_set_5 rfl (lv_at hl 2 rfl) ?_
  refine g_callXl S hs (tX0_set l hnt t D h0 h1 cJ f r n) rfl ml_L_7 im_yX0_set se_yX0_set cd_yX0_set hd_yX0_set ⟨by decide, by decide⟩ hE hS hA hP hK hD hl.1 rfl (Nat.le_of_ble_eq_true rfl) ⟨by decide, by decide⟩ dL_set_6 (fun E9 ce q9 H locs hx9 hP hS hce hcv hcl => ?_) (fun r9 f9 H locs hr9 hP hD hS => ?_)
  · have hE9 := jset_out hx9
    subst hE9
    refine vx_catch (name := gIAE) hown [] ⟨0, 10, 13, 13⟩ [] hT (fun z hz => nomatch hz) (by decide) (by decide) (hts _ (hs _ cl_L_13)) (va_Nw.use rfl (hE.1 (.castable gIAE gIAE) (by decide +kernel))) hce hcv hcl ?_
    refine lv_astore (lv' := [(5, .ref q9), (0, .ref h0), (1, .int r), (2, .long n), (4, .ref o0)]) hx hb dL_set_13 hl (by decide) rfl (fun ls hl => ?_)
    refine lv_iconst (v := 1) hx hb dL_set_15 (by decide) ?_
    exact W.iret (v := 1) hx hb hr (fun t9 ht9 hW9 => ⟨⟨1, (f, g), rfl, Or.inr ⟨_, hx9, by decide +kernel, rfl⟩, by rw [ht9]; exact hP, va_K.moved hW9.alike hK, hD⟩, hS.F ht9⟩) hS.2.2 dL_set_16 hlocks
  · refine va_last hx hb hK hP hD hS 2 1 rfl rfl (by unfold vp_in; decide) dL_set_9 (fun H locs hP hD hS => ?_)
    refine lv_goto (tgt := 17) hx hb dL_set_10 (by decide) ?_
    refine lv_iconst (v := 0) hx hb dL_set_17 (by decide) ?_
    exact W.iret (v := 0) hx hb hr (fun t9 ht9 hW9 => ⟨⟨0, (f9, vp_updL g (0 : Int32).toNatClampNeg r9), rfl, Or.inl ⟨r9, f9, hr9, rfl, rfl, upd0 g _⟩, by rw [ht9]; exact hP, va_K.moved hW9.alike hK, hD⟩, hS.F ht9⟩) hS.2.2 dL_set_18 hlocks
set_option maxHeartbeats 4000000 in
set_option maxRecDepth 100000 in
theorem tL_get (l : Launch) (hnt : l.stackTraces = false) (t : Nat) (D : va_G) (h0 h1 o0 : Nat) (cJ cO : ClassId) (f g : Nat → Int64) (r : Int32) : gL l yL_get cL_get 4 [(0, 8, 11, 13)] { frames := 8, cells := 1, slots := 6, locals := 150 } t D h0 h1 o0 cJ cO f g [.ref h0, .int r, .ref o0] (jget f r) cod1 := by
  intro sz
  refine va_MetW (cc := cL_get) (maxL := 4) (ret := some .int) (by decide) rfl ?_
  intro p e s m args below meth c s₁ B hml hv
  obtain ⟨rfl, hsz, hE, hP, hK, hD0⟩ := hv
  subst hsz
  have hx := B.exec
  have hb := B.bytes
  have hr := B.returns
  have hlocks := B.notSynchronized
  have hts := atoms_spec (ws := Cond.codeWith yL_get cL_get 4 (some .int) [(0, 8, 11, 13)] :: gws) B.pre
  have hs : ∀ w ∈ gws, w ∈ Cond.codeWith yL_get cL_get 4 (some .int) [(0, 8, 11, 13)] :: gws := fun w h => List.mem_cons_of_mem _ h
  have hown : s.vm.findClass RL = some m.cls := findClass_of_methodNamed B.named
  have hT : c.exceptionTable.toList = tableOf [(0, 8, 11, 13)] := vx_table (x := yL_get) B (hts _ List.mem_cons_self)
  have hD := hD0.self (sz := s.heap.size)
  generalize hAe : va_A (wL h0 h1 o0 cJ cO f g) s.heap.size = A at hD hE ⊢
  have hA : ∀ q : Nat, s.heap.size ≤ q → A q := fun q h => by rw [← hAe]; exact Or.inr h
  have hS : va_S A s.heap s.heap [] := va_S.rf
  rw [lg_entry_eq]
  have hl := lv_entry ([.ref h0, .int r, .ref o0] : List Value) (n := 4) (Nat.le_of_ble_eq_true rfl)
  generalize (lg_sl ([.ref h0, .int r, .ref o0] : List Value) ++ List.replicate (4 - (lg_sl ([.ref h0, .int r, .ref o0] : List Value)).length) Slot.unset).toArray = ls at hl ⊢
  have hl : lv_has ls 4 [(0, .ref h0), (1, .int r), (2, .ref o0)] := hl
  have S : CallFix p m c cL_get 4 s ([.ref h0, .int r, .ref o0] : List Value).toArray (Cond.codeWith yL_get cL_get 4 (some .int) [(0, 8, 11, 13)] :: gws) RL := ⟨hx, hb, hml, hown, hts⟩
  refine lv_aload_n hx hb dL_get_0 rfl (lv_at hl 2 rfl) ?_
  refine lv_iconst (v := 0) hx hb dL_get_1 (by decide) ?_
  refine lv_aload_n hx hb dL_get_2 rfl (lv_at hl 0 rfl) ?_
  refine lv_iload_n hx hb dL_get_3 rfl (lv_at hl 1 rfl) ?_
  refine g_callXl S hs (tX0_get l hnt t D h0 h1 cJ f r) rfl ml_L_15 im_yX0_get se_yX0_get cd_yX0_get hd_yX0_get ⟨by decide, by decide⟩ hE hS hA hP hK hD hl.1 rfl (Nat.le_of_ble_eq_true rfl) ⟨by decide, by decide⟩ dL_get_4 (fun E9 ce q9 H locs hx9 hP hS hce hcv hcl => ?_) (fun r9 f9 H locs hr9 hP hD hS => ?_)
  · have hE9 := jget_out hx9
    subst hE9
    refine vx_catch (name := gIAE) hown [] ⟨0, 8, 11, 13⟩ [] hT (fun z hz => nomatch hz) (by decide) (by decide) (hts _ (hs _ cl_L_13)) (va_Nw.use rfl (hE.1 (.castable gIAE gIAE) (by decide +kernel))) hce hcv hcl ?_
    refine lv_astore_n (lv' := [(3, .ref q9), (0, .ref h0), (1, .int r), (2, .ref o0)]) hx hb dL_get_11 rfl hl (by decide) rfl (fun ls hl => ?_)
    refine lv_iconst (v := 1) hx hb dL_get_12 (by decide) ?_
    exact W.iret (v := 1) hx hb hr (fun t9 ht9 hW9 => ⟨⟨1, (f, g), rfl, Or.inr ⟨_, hx9, by decide +kernel, rfl⟩, by rw [ht9]; exact hP, va_K.moved hW9.alike hK, hD⟩, hS.F ht9⟩) hS.2.2 dL_get_13 hlocks
  · refine va_last hx hb hK hP hD hS 2 1 rfl rfl (by unfold vp_in; decide) dL_get_7 (fun H locs hP hD hS => ?_)
    refine lv_goto (tgt := 14) hx hb dL_get_8 (by decide) ?_
    refine lv_iconst (v := 0) hx hb dL_get_14 (by decide) ?_
    exact W.iret (v := 0) hx hb hr (fun t9 ht9 hW9 => ⟨⟨0, (f9, vp_updL g (0 : Int32).toNatClampNeg r9), rfl, Or.inl ⟨r9, f9, hr9, rfl, rfl, upd0 g _⟩, by rw [ht9]; exact hP, va_K.moved hW9.alike hK, hD⟩, hS.F ht9⟩) hS.2.2 dL_get_15 hlocks
set_option maxHeartbeats 4000000 in
set_option maxRecDepth 100000 in
theorem tL_reckon (l : Launch) (hnt : l.stackTraces = false) (t : Nat) (D : va_G) (h0 h1 o0 : Nat) (cJ cO : ClassId) (f g : Nat → Int64) (r : Int32) (op : Int32) (a : Int32) (b : Int32) : gL l yL_reckon cL_reckon 7 [(0, 13, 16, 13), (0, 13, 20, 23), (0, 13, 24, 25)] { frames := 10, cells := 1, slots := 6, locals := 210 } t D h0 h1 o0 cJ cO f g [.ref h0, .int r, .int op, .int a, .int b, .ref o0] (jreckon f r op a b) cod3 := by
  intro sz
  refine va_MetW (cc := cL_reckon) (maxL := 7) (ret := some .int) (by decide) rfl ?_
  intro p e s m args below meth c s₁ B hml hv
  obtain ⟨rfl, hsz, hE, hP, hK, hD0⟩ := hv
  subst hsz
  have hx := B.exec
  have hb := B.bytes
  have hr := B.returns
  have hlocks := B.notSynchronized
  have hts := atoms_spec (ws := Cond.codeWith yL_reckon cL_reckon 7 (some .int) [(0, 13, 16, 13), (0, 13, 20, 23), (0, 13, 24, 25)] :: gws) B.pre
  have hs : ∀ w ∈ gws, w ∈ Cond.codeWith yL_reckon cL_reckon 7 (some .int) [(0, 13, 16, 13), (0, 13, 20, 23), (0, 13, 24, 25)] :: gws := fun w h => List.mem_cons_of_mem _ h
  have hown : s.vm.findClass RL = some m.cls := findClass_of_methodNamed B.named
  have hT : c.exceptionTable.toList = tableOf [(0, 13, 16, 13), (0, 13, 20, 23), (0, 13, 24, 25)] := vx_table (x := yL_reckon) B (hts _ List.mem_cons_self)
  have hD := hD0.self (sz := s.heap.size)
  generalize hAe : va_A (wL h0 h1 o0 cJ cO f g) s.heap.size = A at hD hE ⊢
  have hA : ∀ q : Nat, s.heap.size ≤ q → A q := fun q h => by rw [← hAe]; exact Or.inr h
  have hS : va_S A s.heap s.heap [] := va_S.rf
  rw [lg_entry_eq]
  have hl := lv_entry ([.ref h0, .int r, .int op, .int a, .int b, .ref o0] : List Value) (n := 7) (Nat.le_of_ble_eq_true rfl)
  generalize (lg_sl ([.ref h0, .int r, .int op, .int a, .int b, .ref o0] : List Value) ++ List.replicate (7 - (lg_sl ([.ref h0, .int r, .int op, .int a, .int b, .ref o0] : List Value)).length) Slot.unset).toArray = ls at hl ⊢
  have hl : lv_has ls 7 [(0, .ref h0), (1, .int r), (2, .int op), (3, .int a), (4, .int b), (5, .ref o0)] := hl
  have S : CallFix p m c cL_reckon 7 s ([.ref h0, .int r, .int op, .int a, .int b, .ref o0] : List Value).toArray (Cond.codeWith yL_reckon cL_reckon 7 (some .int) [(0, 13, 16, 13), (0, 13, 20, 23), (0, 13, 24, 25)] :: gws) RL := ⟨hx, hb, hml, hown, hts⟩
  refine lv_aload hx hb dL_reckon_0 (lv_at hl 5 rfl) ?_
  refine lv_iconst (v := 0) hx hb dL_reckon_2 (by decide) ?_
  refine lv_aload_n hx hb dL_reckon_3 rfl (lv_at hl 0 rfl) ?_
  refine lv_iload_n hx hb dL_reckon_4 rfl (lv_at hl 1 rfl) ?_
  refine lv_iload_n hx hb dL_reckon_5 rfl (lv_at hl 2 rfl) ?_
  refine lv_iload_n hx hb dL_reckon_6 rfl (lv_at hl 3 rfl) ?_
  refine lv_iload hx hb dL_reckon_7 (lv_at hl 4 rfl) ?_
  refine g_callXl S hs (tX0_reckon l hnt t D h0 h1 cJ f r op a b) rfl ml_L_19 im_yX0_reckon se_yX0_reckon cd_yX0_reckon hd_yX0_reckon ⟨by decide, by decide⟩ hE hS hA hP hK hD hl.1 rfl (Nat.le_of_ble_eq_true rfl) ⟨by decide, by decide⟩ dL_reckon_9 (fun E9 ce q9 H locs hx9 hP hS hce hcv hcl => ?_) (fun r9 f9 H locs hr9 hP hD hS => ?_)
  · have hE9 := jreckon_out hx9
    rcases hE9 with rfl | rfl | rfl
    · refine vx_catch (name := gIAE) hown [] ⟨0, 13, 16, 13⟩ [⟨0, 13, 20, 23⟩, ⟨0, 13, 24, 25⟩] hT (fun z hz => nomatch hz) (by decide) (by decide) (hts _ (hs _ cl_L_13)) (va_Nw.use rfl (hE.1 (.castable gIAE gIAE) (by decide +kernel))) hce hcv hcl ?_
      refine lv_astore (lv' := [(6, .ref q9), (0, .ref h0), (1, .int r), (2, .int op), (3, .int a), (4, .int b), (5, .ref o0)]) hx hb dL_reckon_16 hl (by decide) rfl (fun ls hl => ?_)
      refine lv_iconst (v := 1) hx hb dL_reckon_18 (by decide) ?_
      exact W.iret (v := 1) hx hb hr (fun t9 ht9 hW9 => ⟨⟨1, (f, g), rfl, Or.inr ⟨_, hx9, by decide +kernel, rfl⟩, by rw [ht9]; exact hP, va_K.moved hW9.alike hK, hD⟩, hS.F ht9⟩) hS.2.2 dL_reckon_19 hlocks
    · refine vx_catch (name := gUOE) hown [⟨0, 13, 16, 13⟩] ⟨0, 13, 20, 23⟩ [⟨0, 13, 24, 25⟩] hT (fun z hz => by
          simp only [List.mem_cons, List.not_mem_nil, or_false] at hz
          subst hz
          exact Or.inr ⟨by decide, gIAE, hts _ (hs _ cl_L_13), hE.2.1.1⟩) (by decide) (by decide) (hts _ (hs _ cl_L_23)) (va_Nw.use rfl (hE.1 (.castable gUOE gUOE) (by decide +kernel))) hce hcv hcl ?_
      refine lv_astore (lv' := [(6, .ref q9), (0, .ref h0), (1, .int r), (2, .int op), (3, .int a), (4, .int b), (5, .ref o0)]) hx hb dL_reckon_20 hl (by decide) rfl (fun ls hl => ?_)
      refine lv_iconst (v := 2) hx hb dL_reckon_22 (by decide) ?_
      exact W.iret (v := 2) hx hb hr (fun t9 ht9 hW9 => ⟨⟨2, (f, g), rfl, Or.inr ⟨_, hx9, by decide +kernel, rfl⟩, by rw [ht9]; exact hP, va_K.moved hW9.alike hK, hD⟩, hS.F ht9⟩) hS.2.2 dL_reckon_23 hlocks
    · refine vx_catch (name := gAE) hown [⟨0, 13, 16, 13⟩, ⟨0, 13, 20, 23⟩] ⟨0, 13, 24, 25⟩ [] hT (fun z hz => by
          simp only [List.mem_cons, List.not_mem_nil, or_false] at hz
          rcases hz with rfl | rfl
          · exact Or.inr ⟨by decide, gIAE, hts _ (hs _ cl_L_13), hE.2.1.2.1⟩
          · exact Or.inr ⟨by decide, gUOE, hts _ (hs _ cl_L_23), hE.2.1.2.2⟩) (by decide) (by decide) (hts _ (hs _ cl_L_25)) (va_Nw.use rfl (hE.1 (.castable gAE gAE) (by decide +kernel))) hce hcv hcl ?_
      refine lv_astore (lv' := [(6, .ref q9), (0, .ref h0), (1, .int r), (2, .int op), (3, .int a), (4, .int b), (5, .ref o0)]) hx hb dL_reckon_24 hl (by decide) rfl (fun ls hl => ?_)
      refine lv_iconst (v := 3) hx hb dL_reckon_26 (by decide) ?_
      exact W.iret (v := 3) hx hb hr (fun t9 ht9 hW9 => ⟨⟨3, (f, g), rfl, Or.inr ⟨_, hx9, by decide +kernel, rfl⟩, by rw [ht9]; exact hP, va_K.moved hW9.alike hK, hD⟩, hS.F ht9⟩) hS.2.2 dL_reckon_27 hlocks
  · refine va_last hx hb hK hP hD hS 2 1 rfl rfl (by unfold vp_in; decide) dL_reckon_12 (fun H locs hP hD hS => ?_)
    refine lv_goto (tgt := 28) hx hb dL_reckon_13 (by decide) ?_
    refine lv_iconst (v := 0) hx hb dL_reckon_28 (by decide) ?_
    exact W.iret (v := 0) hx hb hr (fun t9 ht9 hW9 => ⟨⟨0, (f9, vp_updL g (0 : Int32).toNatClampNeg r9), rfl, Or.inl ⟨r9, f9, hr9, rfl, rfl, upd0 g _⟩, by rw [ht9]; exact hP, va_K.moved hW9.alike hK, hD⟩, hS.F ht9⟩) hS.2.2 dL_reckon_29 hlocks
set_option maxHeartbeats 4000000 in
set_option maxRecDepth 100000 in
theorem tL_turn (l : Launch) (hnt : l.stackTraces = false) (t : Nat) (D : va_G) (h0 h1 o0 : Nat) (cJ cO : ClassId) (f g : Nat → Int64) (r : Int32) (op : Int32) (a : Int32) : gL l yL_turn cL_turn 6 [(0, 11, 14, 13), (0, 11, 18, 25)] { frames := 8, cells := 1, slots := 6, locals := 150 } t D h0 h1 o0 cJ cO f g [.ref h0, .int r, .int op, .int a, .ref o0] (jturn f r op a) cod2 := by
  intro sz
  refine va_MetW (cc := cL_turn) (maxL := 6) (ret := some .int) (by decide) rfl ?_
  intro p e s m args below meth c s₁ B hml hv
  obtain ⟨rfl, hsz, hE, hP, hK, hD0⟩ := hv
  subst hsz
  have hx := B.exec
  have hb := B.bytes
  have hr := B.returns
  have hlocks := B.notSynchronized
  have hts := atoms_spec (ws := Cond.codeWith yL_turn cL_turn 6 (some .int) [(0, 11, 14, 13), (0, 11, 18, 25)] :: gws) B.pre
  have hs : ∀ w ∈ gws, w ∈ Cond.codeWith yL_turn cL_turn 6 (some .int) [(0, 11, 14, 13), (0, 11, 18, 25)] :: gws := fun w h => List.mem_cons_of_mem _ h
  have hown : s.vm.findClass RL = some m.cls := findClass_of_methodNamed B.named
  have hT : c.exceptionTable.toList = tableOf [(0, 11, 14, 13), (0, 11, 18, 25)] := vx_table (x := yL_turn) B (hts _ List.mem_cons_self)
  have hD := hD0.self (sz := s.heap.size)
  generalize hAe : va_A (wL h0 h1 o0 cJ cO f g) s.heap.size = A at hD hE ⊢
  have hA : ∀ q : Nat, s.heap.size ≤ q → A q := fun q h => by rw [← hAe]; exact Or.inr h
  have hS : va_S A s.heap s.heap [] := va_S.rf
  rw [lg_entry_eq]
  have hl := lv_entry ([.ref h0, .int r, .int op, .int a, .ref o0] : List Value) (n := 6) (Nat.le_of_ble_eq_true rfl)
  generalize (lg_sl ([.ref h0, .int r, .int op, .int a, .ref o0] : List Value) ++ List.replicate (6 - (lg_sl ([.ref h0, .int r, .int op, .int a, .ref o0] : List Value)).length) Slot.unset).toArray = ls at hl ⊢
  have hl : lv_has ls 6 [(0, .ref h0), (1, .int r), (2, .int op), (3, .int a), (4, .ref o0)] := hl
  have S : CallFix p m c cL_turn 6 s ([.ref h0, .int r, .int op, .int a, .ref o0] : List Value).toArray (Cond.codeWith yL_turn cL_turn 6 (some .int) [(0, 11, 14, 13), (0, 11, 18, 25)] :: gws) RL := ⟨hx, hb, hml, hown, hts⟩
  refine lv_aload hx hb dL_turn_0 (lv_at hl 4 rfl) ?_
  refine lv_iconst (v := 0) hx hb dL_turn_2 (by decide) ?_
  refine lv_aload_n hx hb dL_turn_3 rfl (lv_at hl 0 rfl) ?_
  refine lv_iload_n hx hb dL_turn_4 rfl (lv_at hl 1 rfl) ?_
  refine lv_iload_n hx hb dL_turn_5 rfl (lv_at hl 2 rfl) ?_
  refine lv_iload_n hx hb dL_turn_6 rfl (lv_at hl 3 rfl) ?_
  refine g_callXl S hs (tX0_turn l hnt t D h0 h1 cJ f r op a) rfl ml_L_27 im_yX0_turn se_yX0_turn cd_yX0_turn hd_yX0_turn ⟨by decide, by decide⟩ hE hS hA hP hK hD hl.1 rfl (Nat.le_of_ble_eq_true rfl) ⟨by decide, by decide⟩ dL_turn_7 (fun E9 ce q9 H locs hx9 hP hS hce hcv hcl => ?_) (fun r9 f9 H locs hr9 hP hD hS => ?_)
  · have hE9 := jturn_out hx9
    rcases hE9 with rfl | rfl
    · refine vx_catch (name := gIAE) hown [] ⟨0, 11, 14, 13⟩ [⟨0, 11, 18, 25⟩] hT (fun z hz => nomatch hz) (by decide) (by decide) (hts _ (hs _ cl_L_13)) (va_Nw.use rfl (hE.1 (.castable gIAE gIAE) (by decide +kernel))) hce hcv hcl ?_
      refine lv_astore (lv' := [(5, .ref q9), (0, .ref h0), (1, .int r), (2, .int op), (3, .int a), (4, .ref o0)]) hx hb dL_turn_14 hl (by decide) rfl (fun ls hl => ?_)
      refine lv_iconst (v := 1) hx hb dL_turn_16 (by decide) ?_
      exact W.iret (v := 1) hx hb hr (fun t9 ht9 hW9 => ⟨⟨1, (f, g), rfl, Or.inr ⟨_, hx9, by decide +kernel, rfl⟩, by rw [ht9]; exact hP, va_K.moved hW9.alike hK, hD⟩, hS.F ht9⟩) hS.2.2 dL_turn_17 hlocks
    · refine vx_catch (name := gAE) hown [⟨0, 11, 14, 13⟩] ⟨0, 11, 18, 25⟩ [] hT (fun z hz => by
          simp only [List.mem_cons, List.not_mem_nil, or_false] at hz
          subst hz
          exact Or.inr ⟨by decide, gIAE, hts _ (hs _ cl_L_13), hE.2.1.2.1⟩) (by decide) (by decide) (hts _ (hs _ cl_L_25)) (va_Nw.use rfl (hE.1 (.castable gAE gAE) (by decide +kernel))) hce hcv hcl ?_
      refine lv_astore (lv' := [(5, .ref q9), (0, .ref h0), (1, .int r), (2, .int op), (3, .int a), (4, .ref o0)]) hx hb dL_turn_18 hl (by decide) rfl (fun ls hl => ?_)
      refine lv_iconst (v := 2) hx hb dL_turn_20 (by decide) ?_
      exact W.iret (v := 2) hx hb hr (fun t9 ht9 hW9 => ⟨⟨2, (f, g), rfl, Or.inr ⟨_, hx9, by decide +kernel, rfl⟩, by rw [ht9]; exact hP, va_K.moved hW9.alike hK, hD⟩, hS.F ht9⟩) hS.2.2 dL_turn_21 hlocks
  · refine va_last hx hb hK hP hD hS 2 1 rfl rfl (by unfold vp_in; decide) dL_turn_10 (fun H locs hP hD hS => ?_)
    refine lv_goto (tgt := 22) hx hb dL_turn_11 (by decide) ?_
    refine lv_iconst (v := 0) hx hb dL_turn_22 (by decide) ?_
    exact W.iret (v := 0) hx hb hr (fun t9 ht9 hW9 => ⟨⟨0, (f9, vp_updL g (0 : Int32).toNatClampNeg r9), rfl, Or.inl ⟨r9, f9, hr9, rfl, rfl, upd0 g _⟩, by rw [ht9]; exact hP, va_K.moved hW9.alike hK, hD⟩, hS.F ht9⟩) hS.2.2 dL_turn_23 hlocks
set_option maxHeartbeats 4000000 in
set_option maxRecDepth 100000 in
theorem tL_round (l : Launch) (hnt : l.stackTraces = false) (t : Nat) (D : va_G) (h0 h1 o0 : Nat) (cJ cO : ClassId) (f g : Nat → Int64) (r : Int32) (a : Int32) (d : Int32) : gL l yL_round cL_round 6 [(0, 11, 14, 13), (0, 11, 18, 25)] { frames := 8, cells := 1, slots := 6, locals := 150 } t D h0 h1 o0 cJ cO f g [.ref h0, .int r, .int a, .int d, .ref o0] (jround f r a d) cod2 := by
  intro sz
  refine va_MetW (cc := cL_round) (maxL := 6) (ret := some .int) (by decide) rfl ?_
  intro p e s m args below meth c s₁ B hml hv
  obtain ⟨rfl, hsz, hE, hP, hK, hD0⟩ := hv
  subst hsz
  have hx := B.exec
  have hb := B.bytes
  have hr := B.returns
  have hlocks := B.notSynchronized
  have hts := atoms_spec (ws := Cond.codeWith yL_round cL_round 6 (some .int) [(0, 11, 14, 13), (0, 11, 18, 25)] :: gws) B.pre
  have hs : ∀ w ∈ gws, w ∈ Cond.codeWith yL_round cL_round 6 (some .int) [(0, 11, 14, 13), (0, 11, 18, 25)] :: gws := fun w h => List.mem_cons_of_mem _ h
  have hown : s.vm.findClass RL = some m.cls := findClass_of_methodNamed B.named
  have hT : c.exceptionTable.toList = tableOf [(0, 11, 14, 13), (0, 11, 18, 25)] := vx_table (x := yL_round) B (hts _ List.mem_cons_self)
  have hD := hD0.self (sz := s.heap.size)
  generalize hAe : va_A (wL h0 h1 o0 cJ cO f g) s.heap.size = A at hD hE ⊢
  have hA : ∀ q : Nat, s.heap.size ≤ q → A q := fun q h => by rw [← hAe]; exact Or.inr h
  have hS : va_S A s.heap s.heap [] := va_S.rf
  rw [lg_entry_eq]
  have hl := lv_entry ([.ref h0, .int r, .int a, .int d, .ref o0] : List Value) (n := 6) (Nat.le_of_ble_eq_true rfl)
  generalize (lg_sl ([.ref h0, .int r, .int a, .int d, .ref o0] : List Value) ++ List.replicate (6 - (lg_sl ([.ref h0, .int r, .int a, .int d, .ref o0] : List Value)).length) Slot.unset).toArray = ls at hl ⊢
  have hl : lv_has ls 6 [(0, .ref h0), (1, .int r), (2, .int a), (3, .int d), (4, .ref o0)] := hl
  have S : CallFix p m c cL_round 6 s ([.ref h0, .int r, .int a, .int d, .ref o0] : List Value).toArray (Cond.codeWith yL_round cL_round 6 (some .int) [(0, 11, 14, 13), (0, 11, 18, 25)] :: gws) RL := ⟨hx, hb, hml, hown, hts⟩
  refine lv_aload hx hb dL_round_0 (lv_at hl 4 rfl) ?_
  refine lv_iconst (v := 0) hx hb dL_round_2 (by decide) ?_
  refine lv_aload_n hx hb dL_round_3 rfl (lv_at hl 0 rfl) ?_
  refine lv_iload_n hx hb dL_round_4 rfl (lv_at hl 1 rfl) ?_
  refine lv_iload_n hx hb dL_round_5 rfl (lv_at hl 2 rfl) ?_
  refine lv_iload_n hx hb dL_round_6 rfl (lv_at hl 3 rfl) ?_
  refine g_callXl S hs (tX0_round l hnt t D h0 h1 cJ f r a d) rfl ml_L_31 im_yX0_round se_yX0_round cd_yX0_round hd_yX0_round ⟨by decide, by decide⟩ hE hS hA hP hK hD hl.1 rfl (Nat.le_of_ble_eq_true rfl) ⟨by decide, by decide⟩ dL_round_7 (fun E9 ce q9 H locs hx9 hP hS hce hcv hcl => ?_) (fun r9 f9 H locs hr9 hP hD hS => ?_)
  · have hE9 := jround_out hx9
    rcases hE9 with rfl | rfl
    · refine vx_catch (name := gIAE) hown [] ⟨0, 11, 14, 13⟩ [⟨0, 11, 18, 25⟩] hT (fun z hz => nomatch hz) (by decide) (by decide) (hts _ (hs _ cl_L_13)) (va_Nw.use rfl (hE.1 (.castable gIAE gIAE) (by decide +kernel))) hce hcv hcl ?_
      refine lv_astore (lv' := [(5, .ref q9), (0, .ref h0), (1, .int r), (2, .int a), (3, .int d), (4, .ref o0)]) hx hb dL_round_14 hl (by decide) rfl (fun ls hl => ?_)
      refine lv_iconst (v := 1) hx hb dL_round_16 (by decide) ?_
      exact W.iret (v := 1) hx hb hr (fun t9 ht9 hW9 => ⟨⟨1, (f, g), rfl, Or.inr ⟨_, hx9, by decide +kernel, rfl⟩, by rw [ht9]; exact hP, va_K.moved hW9.alike hK, hD⟩, hS.F ht9⟩) hS.2.2 dL_round_17 hlocks
    · refine vx_catch (name := gAE) hown [⟨0, 11, 14, 13⟩] ⟨0, 11, 18, 25⟩ [] hT (fun z hz => by
          simp only [List.mem_cons, List.not_mem_nil, or_false] at hz
          subst hz
          exact Or.inr ⟨by decide, gIAE, hts _ (hs _ cl_L_13), hE.2.1.2.1⟩) (by decide) (by decide) (hts _ (hs _ cl_L_25)) (va_Nw.use rfl (hE.1 (.castable gAE gAE) (by decide +kernel))) hce hcv hcl ?_
      refine lv_astore (lv' := [(5, .ref q9), (0, .ref h0), (1, .int r), (2, .int a), (3, .int d), (4, .ref o0)]) hx hb dL_round_18 hl (by decide) rfl (fun ls hl => ?_)
      refine lv_iconst (v := 2) hx hb dL_round_20 (by decide) ?_
      exact W.iret (v := 2) hx hb hr (fun t9 ht9 hW9 => ⟨⟨2, (f, g), rfl, Or.inr ⟨_, hx9, by decide +kernel, rfl⟩, by rw [ht9]; exact hP, va_K.moved hW9.alike hK, hD⟩, hS.F ht9⟩) hS.2.2 dL_round_21 hlocks
  · refine va_last hx hb hK hP hD hS 2 1 rfl rfl (by unfold vp_in; decide) dL_round_10 (fun H locs hP hD hS => ?_)
    refine lv_goto (tgt := 22) hx hb dL_round_11 (by decide) ?_
    refine lv_iconst (v := 0) hx hb dL_round_22 (by decide) ?_
    exact W.iret (v := 0) hx hb hr (fun t9 ht9 hW9 => ⟨⟨0, (f9, vp_updL g (0 : Int32).toNatClampNeg r9), rfl, Or.inl ⟨r9, f9, hr9, rfl, rfl, upd0 g _⟩, by rw [ht9]; exact hP, va_K.moved hW9.alike hK, hD⟩, hS.F ht9⟩) hS.2.2 dL_round_23 hlocks
set_option maxHeartbeats 4000000 in
set_option maxRecDepth 100000 in
theorem tL_print (l : Launch) (hnt : l.stackTraces = false) (t : Nat) (D : va_G) (h0 h1 o0 : Nat) (cJ cO : ClassId) (f g : Nat → Int64) (a : Int32) (i : Int32) : gL l yL_print cL_print 5 [(0, 10, 13, 13)] { frames := 8, cells := 1, slots := 6, locals := 150 } t D h0 h1 o0 cJ cO f g [.ref h0, .int a, .int i, .ref o0] (jprintL f a i) cod1 := by
  intro sz
  refine va_MetW (cc := cL_print) (maxL := 5) (ret := some .int) (by decide) rfl ?_
  intro p e s m args below meth c s₁ B hml hv
  obtain ⟨rfl, hsz, hE, hP, hK, hD0⟩ := hv
  subst hsz
  have hx := B.exec
  have hb := B.bytes
  have hr := B.returns
  have hlocks := B.notSynchronized
  have hts := atoms_spec (ws := Cond.codeWith yL_print cL_print 5 (some .int) [(0, 10, 13, 13)] :: gws) B.pre
  have hs : ∀ w ∈ gws, w ∈ Cond.codeWith yL_print cL_print 5 (some .int) [(0, 10, 13, 13)] :: gws := fun w h => List.mem_cons_of_mem _ h
  have hown : s.vm.findClass RL = some m.cls := findClass_of_methodNamed B.named
  have hT : c.exceptionTable.toList = tableOf [(0, 10, 13, 13)] := vx_table (x := yL_print) B (hts _ List.mem_cons_self)
  have hD := hD0.self (sz := s.heap.size)
  generalize hAe : va_A (wL h0 h1 o0 cJ cO f g) s.heap.size = A at hD hE ⊢
  have hA : ∀ q : Nat, s.heap.size ≤ q → A q := fun q h => by rw [← hAe]; exact Or.inr h
  have hS : va_S A s.heap s.heap [] := va_S.rf
  rw [lg_entry_eq]
  have hl := lv_entry ([.ref h0, .int a, .int i, .ref o0] : List Value) (n := 5) (Nat.le_of_ble_eq_true rfl)
  generalize (lg_sl ([.ref h0, .int a, .int i, .ref o0] : List Value) ++ List.replicate (5 - (lg_sl ([.ref h0, .int a, .int i, .ref o0] : List Value)).length) Slot.unset).toArray = ls at hl ⊢
  have hl : lv_has ls 5 [(0, .ref h0), (1, .int a), (2, .int i), (3, .ref o0)] := hl
  have S : CallFix p m c cL_print 5 s ([.ref h0, .int a, .int i, .ref o0] : List Value).toArray (Cond.codeWith yL_print cL_print 5 (some .int) [(0, 10, 13, 13)] :: gws) RL := ⟨hx, hb, hml, hown, hts⟩
  refine lv_aload_n hx hb dL_print_0 rfl (lv_at hl 3 rfl) ?_
  refine lv_iconst (v := 0) hx hb dL_print_1 (by decide) ?_
  refine lv_aload_n hx hb dL_print_2 rfl (lv_at hl 0 rfl) ?_
  refine lv_iload_n hx hb dL_print_3 rfl (lv_at hl 1 rfl) ?_
  refine lv_iload_n hx hb dL_print_4 rfl (lv_at hl 2 rfl) ?_
  refine g_callXi S hs (tX0_print l hnt t D h0 h1 cJ f a i) rfl ml_L_34 im_yX0_print se_yX0_print cd_yX0_print hd_yX0_print ⟨by decide, by decide⟩ hE hS hA hP hK hD hl.1 rfl (Nat.le_of_ble_eq_true rfl) ⟨by decide, by decide⟩ dL_print_5 (fun E9 ce q9 H locs hx9 hP hS hce hcv hcl => ?_) (fun r9 f9 H locs hr9 hP hD hS => ?_)
  · have hE9 := jprint_out hx9
    subst hE9
    refine vx_catch (name := gIAE) hown [] ⟨0, 10, 13, 13⟩ [] hT (fun z hz => nomatch hz) (by decide) (by decide) (hts _ (hs _ cl_L_13)) (va_Nw.use rfl (hE.1 (.castable gIAE gIAE) (by decide +kernel))) hce hcv hcl ?_
    refine lv_astore (lv' := [(4, .ref q9), (0, .ref h0), (1, .int a), (2, .int i), (3, .ref o0)]) hx hb dL_print_13 hl (by decide) rfl (fun ls hl => ?_)
    refine lv_iconst (v := 1) hx hb dL_print_15 (by decide) ?_
    exact W.iret (v := 1) hx hb hr (fun t9 ht9 hW9 => ⟨⟨1, (f, g), rfl, Or.inr ⟨_, (by rw [jprintL, hx9]), by decide +kernel, rfl⟩, by rw [ht9]; exact hP, va_K.moved hW9.alike hK, hD⟩, hS.F ht9⟩) hS.2.2 dL_print_16 hlocks
  · refine lv_i2l hx hb dL_print_8 rfl ?_
    refine va_last hx hb hK hP hD hS 2 1 rfl rfl (by unfold vp_in; decide) dL_print_9 (fun H locs hP hD hS => ?_)
    refine lv_goto (tgt := 17) hx hb dL_print_10 (by decide) ?_
    refine lv_iconst (v := 0) hx hb dL_print_17 (by decide) ?_
    exact W.iret (v := 0) hx hb hr (fun t9 ht9 hW9 => ⟨⟨0, (f9, vp_updL g (0 : Int32).toNatClampNeg r9.toInt64), rfl, Or.inl ⟨r9.toInt64, f9, (by rw [jprintL, hr9]), rfl, rfl, upd0 g _⟩, by rw [ht9]; exact hP, va_K.moved hW9.alike hK, hD⟩, hS.F ht9⟩) hS.2.2 dL_print_18 hlocks
set_option maxHeartbeats 4000000 in
set_option maxRecDepth 100000 in
theorem tL_average (l : Launch) (hnt : l.stackTraces = false) (t : Nat) (D : va_G) (h0 h1 o0 : Nat) (cJ cO : ClassId) (f g : Nat → Int64) (n : Int32) : gL l yL_average cL_average 4 [(0, 8, 11, 13), (0, 8, 14, 25)] { frames := 8, cells := 1, slots := 6, locals := 150 } t D h0 h1 o0 cJ cO f g [.ref h0, .int n, .ref o0] (javerage f n) cod2 := by
  intro sz
  refine va_MetW (cc := cL_average) (maxL := 4) (ret := some .int) (by decide) rfl ?_
  intro p e s m args below meth c s₁ B hml hv
  obtain ⟨rfl, hsz, hE, hP, hK, hD0⟩ := hv
  subst hsz
  have hx := B.exec
  have hb := B.bytes
  have hr := B.returns
  have hlocks := B.notSynchronized
  have hts := atoms_spec (ws := Cond.codeWith yL_average cL_average 4 (some .int) [(0, 8, 11, 13), (0, 8, 14, 25)] :: gws) B.pre
  have hs : ∀ w ∈ gws, w ∈ Cond.codeWith yL_average cL_average 4 (some .int) [(0, 8, 11, 13), (0, 8, 14, 25)] :: gws := fun w h => List.mem_cons_of_mem _ h
  have hown : s.vm.findClass RL = some m.cls := findClass_of_methodNamed B.named
  have hT : c.exceptionTable.toList = tableOf [(0, 8, 11, 13), (0, 8, 14, 25)] := vx_table (x := yL_average) B (hts _ List.mem_cons_self)
  have hD := hD0.self (sz := s.heap.size)
  generalize hAe : va_A (wL h0 h1 o0 cJ cO f g) s.heap.size = A at hD hE ⊢
  have hA : ∀ q : Nat, s.heap.size ≤ q → A q := fun q h => by rw [← hAe]; exact Or.inr h
  have hS : va_S A s.heap s.heap [] := va_S.rf
  rw [lg_entry_eq]
  have hl := lv_entry ([.ref h0, .int n, .ref o0] : List Value) (n := 4) (Nat.le_of_ble_eq_true rfl)
  generalize (lg_sl ([.ref h0, .int n, .ref o0] : List Value) ++ List.replicate (4 - (lg_sl ([.ref h0, .int n, .ref o0] : List Value)).length) Slot.unset).toArray = ls at hl ⊢
  have hl : lv_has ls 4 [(0, .ref h0), (1, .int n), (2, .ref o0)] := hl
  have S : CallFix p m c cL_average 4 s ([.ref h0, .int n, .ref o0] : List Value).toArray (Cond.codeWith yL_average cL_average 4 (some .int) [(0, 8, 11, 13), (0, 8, 14, 25)] :: gws) RL := ⟨hx, hb, hml, hown, hts⟩
  refine lv_aload_n hx hb dL_average_0 rfl (lv_at hl 2 rfl) ?_
  refine lv_iconst (v := 0) hx hb dL_average_1 (by decide) ?_
  refine lv_aload_n hx hb dL_average_2 rfl (lv_at hl 0 rfl) ?_
  refine lv_iload_n hx hb dL_average_3 rfl (lv_at hl 1 rfl) ?_
  refine g_callXl S hs (tX0_average l hnt t D h0 h1 cJ f n) rfl ml_L_38 im_yX0_average se_yX0_average cd_yX0_average hd_yX0_average ⟨by decide, by decide⟩ hE hS hA hP hK hD hl.1 rfl (Nat.le_of_ble_eq_true rfl) ⟨by decide, by decide⟩ dL_average_4 (fun E9 ce q9 H locs hx9 hP hS hce hcv hcl => ?_) (fun r9 f9 H locs hr9 hP hD hS => ?_)
  · have hE9 := javerage_out hx9
    rcases hE9 with rfl | rfl
    · refine vx_catch (name := gIAE) hown [] ⟨0, 8, 11, 13⟩ [⟨0, 8, 14, 25⟩] hT (fun z hz => nomatch hz) (by decide) (by decide) (hts _ (hs _ cl_L_13)) (va_Nw.use rfl (hE.1 (.castable gIAE gIAE) (by decide +kernel))) hce hcv hcl ?_
      refine lv_astore_n (lv' := [(3, .ref q9), (0, .ref h0), (1, .int n), (2, .ref o0)]) hx hb dL_average_11 rfl hl (by decide) rfl (fun ls hl => ?_)
      refine lv_iconst (v := 1) hx hb dL_average_12 (by decide) ?_
      exact W.iret (v := 1) hx hb hr (fun t9 ht9 hW9 => ⟨⟨1, (f, g), rfl, Or.inr ⟨_, hx9, by decide +kernel, rfl⟩, by rw [ht9]; exact hP, va_K.moved hW9.alike hK, hD⟩, hS.F ht9⟩) hS.2.2 dL_average_13 hlocks
    · refine vx_catch (name := gAE) hown [⟨0, 8, 11, 13⟩] ⟨0, 8, 14, 25⟩ [] hT (fun z hz => by
          simp only [List.mem_cons, List.not_mem_nil, or_false] at hz
          subst hz
          exact Or.inr ⟨by decide, gIAE, hts _ (hs _ cl_L_13), hE.2.1.2.1⟩) (by decide) (by decide) (hts _ (hs _ cl_L_25)) (va_Nw.use rfl (hE.1 (.castable gAE gAE) (by decide +kernel))) hce hcv hcl ?_
      refine lv_astore_n (lv' := [(3, .ref q9), (0, .ref h0), (1, .int n), (2, .ref o0)]) hx hb dL_average_14 rfl hl (by decide) rfl (fun ls hl => ?_)
      refine lv_iconst (v := 2) hx hb dL_average_15 (by decide) ?_
      exact W.iret (v := 2) hx hb hr (fun t9 ht9 hW9 => ⟨⟨2, (f, g), rfl, Or.inr ⟨_, hx9, by decide +kernel, rfl⟩, by rw [ht9]; exact hP, va_K.moved hW9.alike hK, hD⟩, hS.F ht9⟩) hS.2.2 dL_average_16 hlocks
  · refine va_last hx hb hK hP hD hS 2 1 rfl rfl (by unfold vp_in; decide) dL_average_7 (fun H locs hP hD hS => ?_)
    refine lv_goto (tgt := 17) hx hb dL_average_8 (by decide) ?_
    refine lv_iconst (v := 0) hx hb dL_average_17 (by decide) ?_
    exact W.iret (v := 0) hx hb hr (fun t9 ht9 hW9 => ⟨⟨0, (f9, vp_updL g (0 : Int32).toNatClampNeg r9), rfl, Or.inl ⟨r9, f9, hr9, rfl, rfl, upd0 g _⟩, by rw [ht9]; exact hP, va_K.moved hW9.alike hK, hD⟩, hS.F ht9⟩) hS.2.2 dL_average_18 hlocks
