/-- the size of a long, as Math.abs has it -/
def jabs (x : Int64) : Int64 := if 0 < x then x else -x
section GA
variable {p : Program} {l : Launch} {e : Env} {R : Room} {s : State} {m : MethodId} {args : Array Value} {below : List Frame} {meth : Method} {c : Code} {H : Heap} {locs : List Loc} {cells slots : Nat} {Q : State → Prop} {cc : ByteArray} {pc : Nat} {ls : Array Slot} {rest : List Value}
theorem g_abs (hexec : p.tables.exec = Jvm.exec) (hb : c.code = cc) (hml : c.maxLocals = ls.size) {own : String} {index : Nat} (hown : s.vm.findClass own = some m.cls) (hlink : (Cond.methodLink own index yJ9_abs_067f4).before args s = true) (hstat : (Cond.static yJ9_abs_067f4).before args s = true) (hini : (Cond.initialized RJ9).before args s = true) (hcode : (Cond.code yJ9_abs_067f4 cJ9_abs_067f4 2 (some .long)).before args s = true)
    (hframes : 1 ≤ R.frames) (hlocals : (rest.map fun v => v.category).sum + 13 ≤ R.locals) (hc : cells ≤ R.cells) (hs : slots ≤ R.slots) {x : Int64} (hdg : decode cc pc = .ok (.invokestatic index, 3))
    (kk : W p l e R s m args below meth c H locs cells slots Q (F0 m (pc + 3) ls (.long (jabs x) :: rest))) : W p l e R s m args below meth c H locs cells slots Q (F0 m pc ls (.long x :: rest)) :=
  va_mabs_long hexec hb hml hown hlink hstat hini hcode hframes hlocals hc hs hdg kk
end GA
theorem g_out3 {x : Int32} (h0 : ¬ x = 0) (h1 : ¬ x = 1) (h2 : ¬ x = 2) : x.toInt < 0 ∨ 2 < x.toInt := by
  have a0 := lv_neT h0 (a := 0) rfl
  have a1 := lv_neT h1 (a := 1) rfl
  have a2 := lv_neT h2 (a := 2) rfl
  omega
theorem g_out4 {x : Int32} (h0 : ¬ x = 0) (h1 : ¬ x = 1) (h2 : ¬ x = 2) (h3 : ¬ x = 3) : x.toInt < 0 ∨ 3 < x.toInt := by
  have a0 := lv_neT h0 (a := 0) rfl
  have a1 := lv_neT h1 (a := 1) rfl
  have a2 := lv_neT h2 (a := 2) rfl
  have a3 := lv_neT h3 (a := 3) rfl
  omega
/-- go on with an answer, hand on what is thrown -/
def jbind {α : Type} (x : String ⊕ Int64) (f : Int64 → String ⊕ α) : String ⊕ α := match x with
  | .inl E => .inl E
  | .inr r => f r
theorem jbind_inr {α : Type} (r : Int64) (f : Int64 → String ⊕ α) : jbind (.inr r) f = f r := rfl
theorem jbind_inl {α : Type} (E : String) (f : Int64 → String ⊕ α) : jbind (.inl E) f = .inl E := rfl
theorem jabs_ne {x : Int64} (h : ¬ x = 0) : ¬ jabs x = 0 := by
  unfold jabs
  split
  · exact h
  · intro q
    apply h
    have e : x = -(-x) := by simp
    rw [e, q]
    rfl
def jX0_isRegister (r : Int32) : Int32 :=
  if r < (0 : Int32) then
    (0 : Int32)
  else if (8 : Int32) ≤ r then
    (0 : Int32)
  else (1 : Int32)
set_option maxHeartbeats 4000000 in
set_option maxRecDepth 100000 in
theorem tX0_isRegister (l : Launch) (t : Nat) (r : Int32) : gSi l yX0_isRegister cX0_isRegister 1 .boolean { frames := 0, cells := 0, slots := 0, locals := 0 } t [.int r] (fun z9 => z9 = jX0_isRegister r) := by
  refine g_openi (by decide +kernel) (Nat.le_of_ble_eq_true rfl) ?_
  intro p e s m below meth c ls S hr hlocks hE hl
  obtain ⟨hx, hb, hml, hown, hts⟩ := id S
  have hs : ∀ w ∈ gws, w ∈ Cond.code yX0_isRegister cX0_isRegister 1 (some .boolean) :: gws := fun w h => List.mem_cons_of_mem _ h
  have hA : ∀ q, s.heap.size ≤ q → gN s.heap.size q := fun _ h => h
  have hS : va_S (gN s.heap.size) s.heap s.heap [] := va_S.rf
  have hl : lv_has ls 1 [(0, .int r)] := hl
  refine lv_iload_n hx hb dX0_isRegister_0 rfl (lv_at hl 0 rfl) ?_
  refine lv_if_lt (tgt := 14) hx hb dX0_isRegister_1 (by decide) (fun c_1 => ?_) (fun c_1 => ?_)
  · refine lv_iconst (v := 0) hx hb dX0_isRegister_14 (by decide) ?_
    exact g_zret hx hb hr (by decide) hlocks (by rw [jX0_isRegister, if_pos c_1]) dX0_isRegister_15
  · refine lv_iload_n hx hb dX0_isRegister_4 rfl (lv_at hl 0 rfl) ?_
    refine lv_bipush (v := 8) hx hb dX0_isRegister_5 (by decide) ?_
    refine lv_icmp_ge (tgt := 14) hx hb dX0_isRegister_7 (by decide) (fun c_2 => ?_) (fun c_2 => ?_)
    · refine lv_iconst (v := 0) hx hb dX0_isRegister_14 (by decide) ?_
      exact g_zret hx hb hr (by decide) hlocks (by rw [jX0_isRegister, if_neg c_1, if_pos c_2]) dX0_isRegister_15
    · refine lv_iconst (v := 1) hx hb dX0_isRegister_10 (by decide) ?_
      refine lv_goto (tgt := 15) hx hb dX0_isRegister_11 (by decide) ?_
      exact g_zret hx hb hr (by decide) hlocks (by rw [jX0_isRegister, if_neg c_1, if_neg c_2]) dX0_isRegister_15
def jX0_isNumber (n : Int64) : Int32 :=
  if n < (-900000000000000 : Int64) then
    (0 : Int32)
  else if (900000000000000 : Int64) < n then
    (0 : Int32)
  else (1 : Int32)
set_option maxHeartbeats 4000000 in
set_option maxRecDepth 100000 in
theorem tX0_isNumber (l : Launch) (t : Nat) (n : Int64) : gSi l yX0_isNumber cX0_isNumber 2 .boolean { frames := 0, cells := 0, slots := 0, locals := 0 } t [.long n] (fun z9 => z9 = jX0_isNumber n) := by
  refine g_openi (by decide +kernel) (Nat.le_of_ble_eq_true rfl) ?_
  intro p e s m below meth c ls S hr hlocks hE hl
  obtain ⟨hx, hb, hml, hown, hts⟩ := id S
  have hs : ∀ w ∈ gws, w ∈ Cond.code yX0_isNumber cX0_isNumber 2 (some .boolean) :: gws := fun w h => List.mem_cons_of_mem _ h
  have hA : ∀ q, s.heap.size ≤ q → gN s.heap.size q := fun _ h => h
  have hS : va_S (gN s.heap.size) s.heap s.heap [] := va_S.rf
  have hl : lv_has ls 2 [(0, .long n)] := hl
  refine lv_lload_n hx hb dX0_isNumber_0 rfl (lv_at hl 0 rfl) ?_
  refine lv_ldc2 hx hb hown (hts _ (hs _ kl_X0_47)) dX0_isNumber_1 ?_
  refine g_lc_lt (tgt := 20) hx hb dX0_isNumber_4 dX0_isNumber_5 (by decide) (fun c_1 => ?_) (fun c_1 => ?_)
  · refine lv_iconst (v := 0) hx hb dX0_isNumber_20 (by decide) ?_
    exact g_zret hx hb hr (by decide) hlocks (by rw [jX0_isNumber, if_pos c_1]) dX0_isNumber_21
  · refine lv_lload_n hx hb dX0_isNumber_8 rfl (lv_at hl 0 rfl) ?_
    refine lv_ldc2 hx hb hown (hts _ (hs _ kl_X0_49)) dX0_isNumber_9 ?_
    refine g_lc_gt (tgt := 20) hx hb dX0_isNumber_12 dX0_isNumber_13 (by decide) (fun c_2 => ?_) (fun c_2 => ?_)
    · refine lv_iconst (v := 0) hx hb dX0_isNumber_20 (by decide) ?_
      exact g_zret hx hb hr (by decide) hlocks (by rw [jX0_isNumber, if_neg c_1, if_pos c_2]) dX0_isNumber_21
    · refine lv_iconst (v := 1) hx hb dX0_isNumber_16 (by decide) ?_
      refine lv_goto (tgt := 21) hx hb dX0_isNumber_17 (by decide) ?_
      exact g_zret hx hb hr (by decide) hlocks (by rw [jX0_isNumber, if_neg c_1, if_neg c_2]) dX0_isNumber_21
def jX1_size (v : Int64) : Int64 :=
  if (0 : Int64) ≤ v then
    v
  else -v
set_option maxHeartbeats 4000000 in
set_option maxRecDepth 100000 in
theorem tX1_size (l : Launch) (t : Nat) (v : Int64) : gSl l yX1_size cX1_size 2 { frames := 0, cells := 0, slots := 0, locals := 0 } t [.long v] (fun z9 => z9 = jX1_size v) := by
  refine g_openl (by decide +kernel) (Nat.le_of_ble_eq_true rfl) ?_
  intro p e s m below meth c ls S hr hlocks hE hl
  obtain ⟨hx, hb, hml, hown, hts⟩ := id S
  have hs : ∀ w ∈ gws, w ∈ Cond.code yX1_size cX1_size 2 (some .long) :: gws := fun w h => List.mem_cons_of_mem _ h
  have hA : ∀ q, s.heap.size ≤ q → gN s.heap.size q := fun _ h => h
  have hS : va_S (gN s.heap.size) s.heap s.heap [] := va_S.rf
  have hl : lv_has ls 2 [(0, .long v)] := hl
  refine lv_lload_n hx hb dX1_size_0 rfl (lv_at hl 0 rfl) ?_
  refine lv_lconst (v := 0) hx hb dX1_size_1 (by decide) ?_
  refine g_lc_ge (tgt := 11) hx hb dX1_size_2 dX1_size_3 (by decide) (fun c_1 => ?_) (fun c_1 => ?_)
  · refine lv_lload_n hx hb dX1_size_11 rfl (lv_at hl 0 rfl) ?_
    exact g_lret hx hb hr hlocks (by rw [jX1_size, if_pos c_1]) dX1_size_12
  · refine lv_lload_n hx hb dX1_size_6 rfl (lv_at hl 0 rfl) ?_
    refine lv_lneg hx hb dX1_size_7 ?_
    refine lv_goto (tgt := 12) hx hb dX1_size_8 (by decide) ?_
    exact g_lret hx hb hr hlocks (by rw [jX1_size, if_neg c_1]) dX1_size_12
def jfloorMod (x : Int64) (y : Int64) : Int64 :=
  if (0 : Int64) ≤ (x ^^^ y) then
    x - x / y * y
  else if (x - x / y * y) = (0 : Int64) then
    x - x / y * y
  else (x - x / y * y) + y
set_option maxHeartbeats 4000000 in
set_option maxRecDepth 100000 in
theorem tJ9_floorMod_f86c9 (l : Launch) (t : Nat) (x : Int64) (y : Int64) (hy : ¬ y = 0) : gSl l yJ9_floorMod_f86c9 cJ9_floorMod_f86c9 6 { frames := 0, cells := 0, slots := 0, locals := 0 } t [.long x, .long y] (fun z9 => z9 = jfloorMod x y) := by
  refine g_openl (by decide +kernel) (Nat.le_of_ble_eq_true rfl) ?_
  intro p e s m below meth c ls S hr hlocks hE hl
  obtain ⟨hx, hb, hml, hown, hts⟩ := id S
  have hs : ∀ w ∈ gws, w ∈ Cond.code yJ9_floorMod_f86c9 cJ9_floorMod_f86c9 6 (some .long) :: gws := fun w h => List.mem_cons_of_mem _ h
  have hA : ∀ q, s.heap.size ≤ q → gN s.heap.size q := fun _ h => h
  have hS : va_S (gN s.heap.size) s.heap s.heap [] := va_S.rf
  have hl : lv_has ls 6 [(0, .long x), (2, .long y)] := hl
  refine lv_lload_n hx hb dJ9_floorMod_f86c9_0 rfl (lv_at hl 0 rfl) ?_
  refine lv_lload_n hx hb dJ9_floorMod_f86c9_1 rfl (lv_at hl 1 rfl) ?_
  refine lv_lrem hx hb dJ9_floorMod_f86c9_2 (hy) ?_
  refine lv_lstore (lv' := [(4, .long (x - x / y * y)), (0, .long x), (2, .long y)]) hx hb dJ9_floorMod_f86c9_3 hl (by decide) rfl (fun ls hl => ?_)
  refine lv_lload_n hx hb dJ9_floorMod_f86c9_5 rfl (lv_at hl 1 rfl) ?_
  refine lv_lload_n hx hb dJ9_floorMod_f86c9_6 rfl (lv_at hl 2 rfl) ?_
  refine lv_lxor hx hb dJ9_floorMod_f86c9_7 ?_
  refine lv_lconst (v := 0) hx hb dJ9_floorMod_f86c9_8 (by decide) ?_
  refine g_lc_ge (tgt := 25) hx hb dJ9_floorMod_f86c9_9 dJ9_floorMod_f86c9_10 (by decide) (fun c_1 => ?_) (fun c_1 => ?_)
  · refine lv_lload hx hb dJ9_floorMod_f86c9_25 (lv_at hl 0 rfl) ?_
    exact g_lret hx hb hr hlocks (by rw [jfloorMod, if_pos c_1]) dJ9_floorMod_f86c9_27
  · refine lv_lload hx hb dJ9_floorMod_f86c9_13 (lv_at hl 0 rfl) ?_
    refine lv_lconst (v := 0) hx hb dJ9_floorMod_f86c9_15 (by decide) ?_
    refine g_lc_eq (tgt := 25) hx hb dJ9_floorMod_f86c9_16 dJ9_floorMod_f86c9_17 (by decide) (fun c_2 => ?_) (fun c_2 => ?_)
    · refine lv_lload hx hb dJ9_floorMod_f86c9_25 (lv_at hl 0 rfl) ?_
      exact g_lret hx hb hr hlocks (by rw [jfloorMod, if_neg c_1, if_pos c_2]) dJ9_floorMod_f86c9_27
    · refine lv_lload hx hb dJ9_floorMod_f86c9_20 (lv_at hl 0 rfl) ?_
      refine lv_lload_n hx hb dJ9_floorMod_f86c9_22 rfl (lv_at hl 2 rfl) ?_
      refine lv_ladd hx hb dJ9_floorMod_f86c9_23 ?_
      exact g_lret hx hb hr hlocks (by rw [jfloorMod, if_neg c_1, if_neg c_2]) dJ9_floorMod_f86c9_24
def jfloorDiv (x : Int64) (y : Int64) : Int64 :=
  if (0 : Int64) ≤ (x ^^^ y) then
    x / y
  else if ((x / y) * y) = x then
    x / y
  else (x / y) - (1 : Int64)
set_option maxHeartbeats 4000000 in
set_option maxRecDepth 100000 in
theorem tJ9_floorDiv_f86c9 (l : Launch) (t : Nat) (x : Int64) (y : Int64) (hy : ¬ y = 0) : gSl l yJ9_floorDiv_f86c9 cJ9_floorDiv_f86c9 6 { frames := 0, cells := 0, slots := 0, locals := 0 } t [.long x, .long y] (fun z9 => z9 = jfloorDiv x y) := by
  refine g_openl (by decide +kernel) (Nat.le_of_ble_eq_true rfl) ?_
  intro p e s m below meth c ls S hr hlocks hE hl
  obtain ⟨hx, hb, hml, hown, hts⟩ := id S
  have hs : ∀ w ∈ gws, w ∈ Cond.code yJ9_floorDiv_f86c9 cJ9_floorDiv_f86c9 6 (some .long) :: gws := fun w h => List.mem_cons_of_mem _ h
  have hA : ∀ q, s.heap.size ≤ q → gN s.heap.size q := fun _ h => h
  have hS : va_S (gN s.heap.size) s.heap s.heap [] := va_S.rf
  have hl : lv_has ls 6 [(0, .long x), (2, .long y)] := hl
  refine lv_lload_n hx hb dJ9_floorDiv_f86c9_0 rfl (lv_at hl 0 rfl) ?_
  refine lv_lload_n hx hb dJ9_floorDiv_f86c9_1 rfl (lv_at hl 1 rfl) ?_
  refine lv_ldiv hx hb dJ9_floorDiv_f86c9_2 (hy) ?_
  refine lv_lstore (lv' := [(4, .long (x / y)), (0, .long x), (2, .long y)]) hx hb dJ9_floorDiv_f86c9_3 hl (by decide) rfl (fun ls hl => ?_)
  refine lv_lload_n hx hb dJ9_floorDiv_f86c9_5 rfl (lv_at hl 1 rfl) ?_
  refine lv_lload_n hx hb dJ9_floorDiv_f86c9_6 rfl (lv_at hl 2 rfl) ?_
  refine lv_lxor hx hb dJ9_floorDiv_f86c9_7 ?_
  refine lv_lconst (v := 0) hx hb dJ9_floorDiv_f86c9_8 (by decide) ?_
  refine g_lc_ge (tgt := 27) hx hb dJ9_floorDiv_f86c9_9 dJ9_floorDiv_f86c9_10 (by decide) (fun c_1 => ?_) (fun c_1 => ?_)
  · refine lv_lload hx hb dJ9_floorDiv_f86c9_27 (lv_at hl 0 rfl) ?_
    exact g_lret hx hb hr hlocks (by rw [jfloorDiv, if_pos c_1]) dJ9_floorDiv_f86c9_29
  · refine lv_lload hx hb dJ9_floorDiv_f86c9_13 (lv_at hl 0 rfl) ?_
    refine lv_lload_n hx hb dJ9_floorDiv_f86c9_15 rfl (lv_at hl 2 rfl) ?_
    refine lv_lmul hx hb dJ9_floorDiv_f86c9_16 ?_
    refine lv_lload_n hx hb dJ9_floorDiv_f86c9_17 rfl (lv_at hl 1 rfl) ?_
    refine g_lc_eq (tgt := 27) hx hb dJ9_floorDiv_f86c9_18 dJ9_floorDiv_f86c9_19 (by decide) (fun c_2 => ?_) (fun c_2 => ?_)
    · refine lv_lload hx hb dJ9_floorDiv_f86c9_27 (lv_at hl 0 rfl) ?_
      exact g_lret hx hb hr hlocks (by rw [jfloorDiv, if_neg c_1, if_pos c_2]) dJ9_floorDiv_f86c9_29
    · refine lv_lload hx hb dJ9_floorDiv_f86c9_22 (lv_at hl 0 rfl) ?_
      refine lv_lconst (v := 1) hx hb dJ9_floorDiv_f86c9_24 (by decide) ?_
      refine lv_lsub hx hb dJ9_floorDiv_f86c9_25 ?_
      exact g_lret hx hb hr hlocks (by rw [jfloorDiv, if_neg c_1, if_neg c_2]) dJ9_floorDiv_f86c9_26
def jrq (a : Int64) (b : Int64) : Int64 :=
  if ((jabs a) - (jabs a) / (jabs b) * (jabs b)) < ((jabs b) - ((jabs a) - (jabs a) / (jabs b) * (jabs b))) then
    if (0 : Int64) ≤ a then
      if (0 : Int64) ≤ b then
        (jabs a) / (jabs b)
      else -((jabs a) / (jabs b))
    else if (0 : Int64) ≤ b then
      -((jabs a) / (jabs b))
    else (jabs a) / (jabs b)
  else if (0 : Int64) ≤ a then
    if (0 : Int64) ≤ b then
      ((jabs a) / (jabs b)) + (1 : Int64)
    else -(((jabs a) / (jabs b)) + (1 : Int64))
  else if (0 : Int64) ≤ b then
    -(((jabs a) / (jabs b)) + (1 : Int64))
  else ((jabs a) / (jabs b)) + (1 : Int64)
set_option maxHeartbeats 4000000 in
set_option maxRecDepth 100000 in
theorem tX0_roundedQuotient (l : Launch) (t : Nat) (a : Int64) (b : Int64) (hb0 : ¬ jabs b = 0) : gSl l yX0_roundedQuotient cX0_roundedQuotient 12 { frames := 2, cells := 0, slots := 0, locals := 40 } t [.long a, .long b] (fun z9 => z9 = jrq a b) := by
  refine g_openl (by decide +kernel) (Nat.le_of_ble_eq_true rfl) ?_
  intro p e s m below meth c ls S hr hlocks hE hl
  obtain ⟨hx, hb, hml, hown, hts⟩ := id S
  have hs : ∀ w ∈ gws, w ∈ Cond.code yX0_roundedQuotient cX0_roundedQuotient 12 (some .long) :: gws := fun w h => List.mem_cons_of_mem _ h
  have hA : ∀ q, s.heap.size ≤ q → gN s.heap.size q := fun _ h => h
  have hS : va_S (gN s.heap.size) s.heap s.heap [] := va_S.rf
  have hl : lv_has ls 12 [(0, .long a), (2, .long b)] := hl
  refine lv_lload_n hx hb dX0_roundedQuotient_0 rfl (lv_at hl 0 rfl) ?_
  refine g_abs hx hb (by rw [hml]; exact hl.1.symm) hown (hts _ (hs _ ml_X0_72)) (hts _ (hs _ st_yJ9_abs_067f4)) (hts _ (hs _ in_J9)) (hts _ (hs _ cd_yJ9_abs_067f4)) (by decide) (Nat.le_of_ble_eq_true rfl) (by decide) (by decide) dX0_roundedQuotient_1 ?_
  refine lv_lstore (lv' := [(4, .long (jabs a)), (0, .long a), (2, .long b)]) hx hb dX0_roundedQuotient_4 hl (by decide) rfl (fun ls hl => ?_)
  refine lv_lload_n hx hb dX0_roundedQuotient_6 rfl (lv_at hl 2 rfl) ?_
  refine g_abs hx hb (by rw [hml]; exact hl.1.symm) hown (hts _ (hs _ ml_X0_72)) (hts _ (hs _ st_yJ9_abs_067f4)) (hts _ (hs _ in_J9)) (hts _ (hs _ cd_yJ9_abs_067f4)) (by decide) (Nat.le_of_ble_eq_true rfl) (by decide) (by decide) dX0_roundedQuotient_7 ?_
  refine lv_lstore (lv' := [(6, .long (jabs b)), (4, .long (jabs a)), (0, .long a), (2, .long b)]) hx hb dX0_roundedQuotient_10 hl (by decide) rfl (fun ls hl => ?_)
  refine lv_lload hx hb dX0_roundedQuotient_12 (lv_at hl 1 rfl) ?_
  refine lv_lload hx hb dX0_roundedQuotient_14 (lv_at hl 0 rfl) ?_
  refine lv_ldiv hx hb dX0_roundedQuotient_16 (hb0) ?_
  refine lv_lstore (lv' := [(8, .long ((jabs a) / (jabs b))), (6, .long (jabs b)), (4, .long (jabs a)), (0, .long a), (2, .long b)]) hx hb dX0_roundedQuotient_17 hl (by decide) rfl (fun ls hl => ?_)
  refine lv_lload hx hb dX0_roundedQuotient_19 (lv_at hl 2 rfl) ?_
  refine lv_lload hx hb dX0_roundedQuotient_21 (lv_at hl 1 rfl) ?_
  refine lv_lrem hx hb dX0_roundedQuotient_23 (hb0) ?_
  refine lv_lstore (lv' := [(10, .long ((jabs a) - (jabs a) / (jabs b) * (jabs b))), (8, .long ((jabs a) / (jabs b))), (6, .long (jabs b)), (4, .long (jabs a)), (0, .long a), (2, .long b)]) hx hb dX0_roundedQuotient_24 hl (by decide) rfl (fun ls hl => ?_)
  refine lv_lload hx hb dX0_roundedQuotient_26 (lv_at hl 0 rfl) ?_
  refine lv_lload hx hb dX0_roundedQuotient_28 (lv_at hl 2 rfl) ?_
  refine lv_lload hx hb dX0_roundedQuotient_30 (lv_at hl 0 rfl) ?_
  refine lv_lsub hx hb dX0_roundedQuotient_32 ?_
  refine g_lc_lt (tgt := 43) hx hb dX0_roundedQuotient_33 dX0_roundedQuotient_34 (by decide) (fun c_1 => ?_) (fun c_1 => ?_)
  · refine lv_lload_n hx hb dX0_roundedQuotient_43 rfl (lv_at hl 4 rfl) ?_
    refine lv_lconst (v := 0) hx hb dX0_roundedQuotient_44 (by decide) ?_
    refine g_lc_ge (tgt := 53) hx hb dX0_roundedQuotient_45 dX0_roundedQuotient_46 (by decide) (fun c_2 => ?_) (fun c_2 => ?_)
    · refine lv_iconst (v := 0) hx hb dX0_roundedQuotient_53 (by decide) ?_
      refine lv_lload_n hx hb dX0_roundedQuotient_54 rfl (lv_at hl 5 rfl) ?_
      refine lv_lconst (v := 0) hx hb dX0_roundedQuotient_55 (by decide) ?_
      refine g_lc_ge (tgt := 64) hx hb dX0_roundedQuotient_56 dX0_roundedQuotient_57 (by decide) (fun c_3 => ?_) (fun c_3 => ?_)
      · refine lv_iconst (v := 0) hx hb dX0_roundedQuotient_64 (by decide) ?_
        refine lv_icmp_ne (tgt := 73) hx hb dX0_roundedQuotient_65 (by decide) (fun c_4 => absurd c_4 (by decide)) (fun c_4 => ?_)
        refine lv_lload hx hb dX0_roundedQuotient_68 (lv_at hl 1 rfl) ?_
        refine lv_goto (tgt := 76) hx hb dX0_roundedQuotient_70 (by decide) ?_
        exact g_lret hx hb hr hlocks (by rw [jrq, if_pos c_1, if_pos c_2, if_pos c_3]) dX0_roundedQuotient_76
      · refine lv_iconst (v := 1) hx hb dX0_roundedQuotient_60 (by decide) ?_
        refine lv_goto (tgt := 65) hx hb dX0_roundedQuotient_61 (by decide) ?_
        refine lv_icmp_ne (tgt := 73) hx hb dX0_roundedQuotient_65 (by decide) (fun c_5 => ?_) (fun c_5 => absurd c_5 (by decide))
        refine lv_lload hx hb dX0_roundedQuotient_73 (lv_at hl 1 rfl) ?_
        refine lv_lneg hx hb dX0_roundedQuotient_75 ?_
        exact g_lret hx hb hr hlocks (by rw [jrq, if_pos c_1, if_pos c_2, if_neg c_3]) dX0_roundedQuotient_76
    · refine lv_iconst (v := 1) hx hb dX0_roundedQuotient_49 (by decide) ?_
      refine lv_goto (tgt := 54) hx hb dX0_roundedQuotient_50 (by decide) ?_
      refine lv_lload_n hx hb dX0_roundedQuotient_54 rfl (lv_at hl 5 rfl) ?_
      refine lv_lconst (v := 0) hx hb dX0_roundedQuotient_55 (by decide) ?_
      refine g_lc_ge (tgt := 64) hx hb dX0_roundedQuotient_56 dX0_roundedQuotient_57 (by decide) (fun c_6 => ?_) (fun c_6 => ?_)
      · refine lv_iconst (v := 0) hx hb dX0_roundedQuotient_64 (by decide) ?_
        refine lv_icmp_ne (tgt := 73) hx hb dX0_roundedQuotient_65 (by decide) (fun c_7 => ?_) (fun c_7 => absurd c_7 (by decide))
        refine lv_lload hx hb dX0_roundedQuotient_73 (lv_at hl 1 rfl) ?_
        refine lv_lneg hx hb dX0_roundedQuotient_75 ?_
        exact g_lret hx hb hr hlocks (by rw [jrq, if_pos c_1, if_neg c_2, if_pos c_6]) dX0_roundedQuotient_76
      · refine lv_iconst (v := 1) hx hb dX0_roundedQuotient_60 (by decide) ?_
        refine lv_goto (tgt := 65) hx hb dX0_roundedQuotient_61 (by decide) ?_
        refine lv_icmp_ne (tgt := 73) hx hb dX0_roundedQuotient_65 (by decide) (fun c_8 => absurd c_8 (by decide)) (fun c_8 => ?_)
        refine lv_lload hx hb dX0_roundedQuotient_68 (lv_at hl 1 rfl) ?_
        refine lv_goto (tgt := 76) hx hb dX0_roundedQuotient_70 (by decide) ?_
        exact g_lret hx hb hr hlocks (by rw [jrq, if_pos c_1, if_neg c_2, if_neg c_6]) dX0_roundedQuotient_76
  · refine lv_lload hx hb dX0_roundedQuotient_37 (lv_at hl 1 rfl) ?_
    refine lv_lconst (v := 1) hx hb dX0_roundedQuotient_39 (by decide) ?_
    refine lv_ladd hx hb dX0_roundedQuotient_40 ?_
    refine lv_lstore (lv' := [(8, .long (((jabs a) / (jabs b)) + (1 : Int64))), (10, .long ((jabs a) - (jabs a) / (jabs b) * (jabs b))), (6, .long (jabs b)), (4, .long (jabs a)), (0, .long a), (2, .long b)]) hx hb dX0_roundedQuotient_41 hl (by decide) rfl (fun ls hl => ?_)
    refine lv_lload_n hx hb dX0_roundedQuotient_43 rfl (lv_at hl 4 rfl) ?_
    refine lv_lconst (v := 0) hx hb dX0_roundedQuotient_44 (by decide) ?_
    refine g_lc_ge (tgt := 53) hx hb dX0_roundedQuotient_45 dX0_roundedQuotient_46 (by decide) (fun c_9 => ?_) (fun c_9 => ?_)
    · refine lv_iconst (v := 0) hx hb dX0_roundedQuotient_53 (by decide) ?_
      refine lv_lload_n hx hb dX0_roundedQuotient_54 rfl (lv_at hl 5 rfl) ?_
      refine lv_lconst (v := 0) hx hb dX0_roundedQuotient_55 (by decide) ?_
      refine g_lc_ge (tgt := 64) hx hb dX0_roundedQuotient_56 dX0_roundedQuotient_57 (by decide) (fun c_10 => ?_) (fun c_10 => ?_)
      · refine lv_iconst (v := 0) hx hb dX0_roundedQuotient_64 (by decide) ?_
        refine lv_icmp_ne (tgt := 73) hx hb dX0_roundedQuotient_65 (by decide) (fun c_11 => absurd c_11 (by decide)) (fun c_11 => ?_)
        refine lv_lload hx hb dX0_roundedQuotient_68 (lv_at hl 0 rfl) ?_
        refine lv_goto (tgt := 76) hx hb dX0_roundedQuotient_70 (by decide) ?_
        exact g_lret hx hb hr hlocks (by rw [jrq, if_neg c_1, if_pos c_9, if_pos c_10]) dX0_roundedQuotient_76
      · refine lv_iconst (v := 1) hx hb dX0_roundedQuotient_60 (by decide) ?_
        refine lv_goto (tgt := 65) hx hb dX0_roundedQuotient_61 (by decide) ?_
        refine lv_icmp_ne (tgt := 73) hx hb dX0_roundedQuotient_65 (by decide) (fun c_12 => ?_) (fun c_12 => absurd c_12 (by decide))
        refine lv_lload hx hb dX0_roundedQuotient_73 (lv_at hl 0 rfl) ?_
        refine lv_lneg hx hb dX0_roundedQuotient_75 ?_
        exact g_lret hx hb hr hlocks (by rw [jrq, if_neg c_1, if_pos c_9, if_neg c_10]) dX0_roundedQuotient_76
    · refine lv_iconst (v := 1) hx hb dX0_roundedQuotient_49 (by decide) ?_
      refine lv_goto (tgt := 54) hx hb dX0_roundedQuotient_50 (by decide) ?_
      refine lv_lload_n hx hb dX0_roundedQuotient_54 rfl (lv_at hl 5 rfl) ?_
      refine lv_lconst (v := 0) hx hb dX0_roundedQuotient_55 (by decide) ?_
      refine g_lc_ge (tgt := 64) hx hb dX0_roundedQuotient_56 dX0_roundedQuotient_57 (by decide) (fun c_13 => ?_) (fun c_13 => ?_)
      · refine lv_iconst (v := 0) hx hb dX0_roundedQuotient_64 (by decide) ?_
        refine lv_icmp_ne (tgt := 73) hx hb dX0_roundedQuotient_65 (by decide) (fun c_14 => ?_) (fun c_14 => absurd c_14 (by decide))
        refine lv_lload hx hb dX0_roundedQuotient_73 (lv_at hl 0 rfl) ?_
        refine lv_lneg hx hb dX0_roundedQuotient_75 ?_
        exact g_lret hx hb hr hlocks (by rw [jrq, if_neg c_1, if_neg c_9, if_pos c_13]) dX0_roundedQuotient_76
      · refine lv_iconst (v := 1) hx hb dX0_roundedQuotient_60 (by decide) ?_
        refine lv_goto (tgt := 65) hx hb dX0_roundedQuotient_61 (by decide) ?_
        refine lv_icmp_ne (tgt := 73) hx hb dX0_roundedQuotient_65 (by decide) (fun c_15 => absurd c_15 (by decide)) (fun c_15 => ?_)
        refine lv_lload hx hb dX0_roundedQuotient_68 (lv_at hl 0 rfl) ?_
        refine lv_goto (tgt := 76) hx hb dX0_roundedQuotient_70 (by decide) ?_
        exact g_lret hx hb hr hlocks (by rw [jrq, if_neg c_1, if_neg c_9, if_neg c_13]) dX0_roundedQuotient_76
def jlimited (v : Int64) : String ⊕ Int64 :=
  if (jX0_isNumber v) = (0 : Int32) then
    .inl gAE
  else .inr v
set_option maxHeartbeats 4000000 in
set_option maxRecDepth 100000 in
theorem tX0_limited (l : Launch) (hnt : l.stackTraces = false) (t : Nat) (v : Int64) : gSlX l yX0_limited cX0_limited 2 { frames := 6, cells := 1, slots := 6, locals := 90 } t [.long v] (fun z9 => jlimited v = .inr z9) (fun E9 => jlimited v = .inl E9) := by
  refine g_openX (by decide +kernel) (Nat.le_of_ble_eq_true rfl) ?_
  intro p e s m below meth c ls S hr hlocks hout hE hl
  obtain ⟨hx, hb, hml, hown, hts⟩ := id S
  have hs : ∀ w ∈ gws, w ∈ Cond.code yX0_limited cX0_limited 2 (some .long) :: gws := fun w h => List.mem_cons_of_mem _ h
  have hA : ∀ q, s.heap.size ≤ q → gN s.heap.size q := fun _ h => h
  have hS : va_S (gN s.heap.size) s.heap s.heap [] := va_S.rf
  have hl : lv_has ls 2 [(0, .long v)] := hl
  refine lv_lload_n hx hb dX0_limited_0 rfl (lv_at hl 0 rfl) ?_
  refine g_callSi S hs (tX0_isNumber l t v) ml_X0_17 st_yX0_isNumber in_X0 cd_yX0_isNumber hd_yX0_isNumber ⟨by decide, by decide⟩ hE hS hA hl.1 rfl (Nat.le_of_ble_eq_true rfl) ⟨by decide, by decide⟩ dX0_limited_1 (fun r_1 hr_1 => ?_)
  subst hr_1
  refine lv_if_ne (tgt := 15) hx hb dX0_limited_4 (by decide) (fun c_2 => ?_) (fun c_2 => ?_)
  · refine lv_lload_n hx hb dX0_limited_15 rfl (lv_at hl 0 rfl) ?_
    exact vx_ret (W.widen (by decide) (by decide) (g_lret hx hb hr hlocks (by rw [jlimited, if_neg c_2]) dX0_limited_16))
  · exact g_throw S hs hnt (by decide +kernel) cl_X0_51 in_ArithmeticException gt_AE1 gt_AE2 gt_AE3 hE hS hl.1 dX0_limited_7 dX0_limited_10 dX0_limited_11 dX0_limited_14 hout hlocks (by decide) (Nat.le_of_ble_eq_true rfl) (by decide) (by decide) (fun _ h => h) (by decide) (by decide) (fun t9 hF9 _ _ => ⟨(), trivial, (show jlimited v = .inl gAE from by rw [jlimited, if_pos c_2]), hF9⟩)
def jprodS (x : Int64) (y : Int64) : String ⊕ Int64 :=
  if (x / (10000 : Int64)) = (0 : Int64) then
    .inr (((x / (10000 : Int64)) * y) + (jrq ((x - x / (10000 : Int64) * (10000 : Int64)) * y) (10000 : Int64)))
  else if y ≤ ((900000000000000 : Int64) / (x / (10000 : Int64))) then
    .inr (((x / (10000 : Int64)) * y) + (jrq ((x - x / (10000 : Int64) * (10000 : Int64)) * y) (10000 : Int64)))
  else .inl gAE
set_option maxHeartbeats 4000000 in
set_option maxRecDepth 100000 in
theorem tX0_productOfSizes (l : Launch) (hnt : l.stackTraces = false) (t : Nat) (x : Int64) (y : Int64) : gSlX l yX0_productOfSizes cX0_productOfSizes 6 { frames := 6, cells := 1, slots := 6, locals := 90 } t [.long x, .long y] (fun z9 => jprodS x y = .inr z9) (fun E9 => jprodS x y = .inl E9) := by
  refine g_openX (by decide +kernel) (Nat.le_of_ble_eq_true rfl) ?_
  intro p e s m below meth c ls S hr hlocks hout hE hl
  obtain ⟨hx, hb, hml, hown, hts⟩ := id S
  have hs : ∀ w ∈ gws, w ∈ Cond.code yX0_productOfSizes cX0_productOfSizes 6 (some .long) :: gws := fun w h => List.mem_cons_of_mem _ h
  have hA : ∀ q, s.heap.size ≤ q → gN s.heap.size q := fun _ h => h
  have hS : va_S (gN s.heap.size) s.heap s.heap [] := va_S.rf
  have hl : lv_has ls 6 [(0, .long x), (2, .long y)] := hl
  refine lv_lload_n hx hb dX0_productOfSizes_0 rfl (lv_at hl 0 rfl) ?_
  refine lv_ldc2 hx hb hown (hts _ (hs _ kl_X0_60)) dX0_productOfSizes_1 ?_
  refine lv_ldiv hx hb dX0_productOfSizes_4 (by decide) ?_
  refine lv_lstore (lv' := [(4, .long (x / (10000 : Int64))), (0, .long x), (2, .long y)]) hx hb dX0_productOfSizes_5 hl (by decide) rfl (fun ls hl => ?_)
  refine lv_lload hx hb dX0_productOfSizes_7 (lv_at hl 0 rfl) ?_
  refine lv_lconst (v := 0) hx hb dX0_productOfSizes_9 (by decide) ?_
  refine g_lc_eq (tgt := 33) hx hb dX0_productOfSizes_10 dX0_productOfSizes_11 (by decide) (fun c_1 => ?_) (fun c_1 => ?_)
  · refine lv_lload hx hb dX0_productOfSizes_33 (lv_at hl 0 rfl) ?_
    refine lv_lload_n hx hb dX0_productOfSizes_35 rfl (lv_at hl 2 rfl) ?_
    refine lv_lmul hx hb dX0_productOfSizes_36 ?_
    refine lv_lload_n hx hb dX0_productOfSizes_37 rfl (lv_at hl 1 rfl) ?_
    refine lv_ldc2 hx hb hown (hts _ (hs _ kl_X0_60)) dX0_productOfSizes_38 ?_
    refine lv_lrem hx hb dX0_productOfSizes_41 (by decide) ?_
    refine lv_lload_n hx hb dX0_productOfSizes_42 rfl (lv_at hl 2 rfl) ?_
    refine lv_lmul hx hb dX0_productOfSizes_43 ?_
    refine lv_ldc2 hx hb hown (hts _ (hs _ kl_X0_60)) dX0_productOfSizes_44 ?_
    refine g_callSl S hs (tX0_roundedQuotient l t ((x - x / (10000 : Int64) * (10000 : Int64)) * y) (10000 : Int64) (by decide)) ml_X0_39 st_yX0_roundedQuotient in_X0 cd_yX0_roundedQuotient hd_yX0_roundedQuotient ⟨by decide, by decide⟩ hE hS hA hl.1 rfl (Nat.le_of_ble_eq_true rfl) ⟨by decide, by decide⟩ dX0_productOfSizes_47 (fun r_2 hr_2 => ?_)
    subst hr_2
    refine lv_ladd hx hb dX0_productOfSizes_50 ?_
    exact vx_ret (W.widen (by decide) (by decide) (g_lret hx hb hr hlocks (by rw [jprodS, if_pos c_1]) dX0_productOfSizes_51))
  · refine lv_lload_n hx hb dX0_productOfSizes_14 rfl (lv_at hl 2 rfl) ?_
    refine lv_ldc2 hx hb hown (hts _ (hs _ kl_X0_49)) dX0_productOfSizes_15 ?_
    refine lv_lload hx hb dX0_productOfSizes_18 (lv_at hl 0 rfl) ?_
    refine lv_ldiv hx hb dX0_productOfSizes_20 (c_1) ?_
    refine g_lc_le (tgt := 33) hx hb dX0_productOfSizes_21 dX0_productOfSizes_22 (by decide) (fun c_3 => ?_) (fun c_3 => ?_)
    · refine lv_lload hx hb dX0_productOfSizes_33 (lv_at hl 0 rfl) ?_
      refine lv_lload_n hx hb dX0_productOfSizes_35 rfl (lv_at hl 2 rfl) ?_
      refine lv_lmul hx hb dX0_productOfSizes_36 ?_
      refine lv_lload_n hx hb dX0_productOfSizes_37 rfl (lv_at hl 1 rfl) ?_
      refine lv_ldc2 hx hb hown (hts _ (hs _ kl_X0_60)) dX0_productOfSizes_38 ?_
      refine lv_lrem hx hb dX0_productOfSizes_41 (by decide) ?_
      refine lv_lload_n hx hb dX0_productOfSizes_42 rfl (lv_at hl 2 rfl) ?_
      refine lv_lmul hx hb dX0_productOfSizes_43 ?_
      refine lv_ldc2 hx hb hown (hts _ (hs _ kl_X0_60)) dX0_productOfSizes_44 ?_
      refine g_callSl S hs (tX0_roundedQuotient l t ((x - x / (10000 : Int64) * (10000 : Int64)) * y) (10000 : Int64) (by decide)) ml_X0_39 st_yX0_roundedQuotient in_X0 cd_yX0_roundedQuotient hd_yX0_roundedQuotient ⟨by decide, by decide⟩ hE hS hA hl.1 rfl (Nat.le_of_ble_eq_true rfl) ⟨by decide, by decide⟩ dX0_productOfSizes_47 (fun r_4 hr_4 => ?_)
      subst hr_4
      refine lv_ladd hx hb dX0_productOfSizes_50 ?_
      exact vx_ret (W.widen (by decide) (by decide) (g_lret hx hb hr hlocks (by rw [jprodS, if_neg c_1, if_pos c_3]) dX0_productOfSizes_51))
    · exact g_throw S hs hnt (by decide +kernel) cl_X0_51 in_ArithmeticException gt_AE1 gt_AE2 gt_AE3 hE hS hl.1 dX0_productOfSizes_25 dX0_productOfSizes_28 dX0_productOfSizes_29 dX0_productOfSizes_32 hout hlocks (by decide) (Nat.le_of_ble_eq_true rfl) (by decide) (by decide) (fun _ h => h) (by decide) (by decide) (fun t9 hF9 _ _ => ⟨(), trivial, (show jprodS x y = .inl gAE from by rw [jprodS, if_neg c_1, if_neg c_3]), hF9⟩)
def jprod (x : Int64) (y : Int64) : String ⊕ Int64 :=
  jbind (jprodS (jabs x) (jabs y)) fun r_1 =>
    if (0 : Int64) ≤ x then
      if (0 : Int64) ≤ y then
        .inr r_1
      else .inr (-r_1)
    else if (0 : Int64) ≤ y then
      .inr (-r_1)
    else .inr r_1
set_option maxHeartbeats 4000000 in
set_option maxRecDepth 100000 in
theorem tX0_product (l : Launch) (hnt : l.stackTraces = false) (t : Nat) (x : Int64) (y : Int64) : gSlX l yX0_product cX0_product 6 { frames := 7, cells := 1, slots := 6, locals := 120 } t [.long x, .long y] (fun z9 => jprod x y = .inr z9) (fun E9 => jprod x y = .inl E9) := by
  refine g_openX (by decide +kernel) (Nat.le_of_ble_eq_true rfl) ?_
  intro p e s m below meth c ls S hr hlocks hout hE hl
  obtain ⟨hx, hb, hml, hown, hts⟩ := id S
  have hs : ∀ w ∈ gws, w ∈ Cond.code yX0_product cX0_product 6 (some .long) :: gws := fun w h => List.mem_cons_of_mem _ h
  have hA : ∀ q, s.heap.size ≤ q → gN s.heap.size q := fun _ h => h
  have hS : va_S (gN s.heap.size) s.heap s.heap [] := va_S.rf
  have hl : lv_has ls 6 [(0, .long x), (2, .long y)] := hl
  refine lv_lload_n hx hb dX0_product_0 rfl (lv_at hl 0 rfl) ?_
  refine g_abs hx hb (by rw [hml]; exact hl.1.symm) hown (hts _ (hs _ ml_X0_72)) (hts _ (hs _ st_yJ9_abs_067f4)) (hts _ (hs _ in_J9)) (hts _ (hs _ cd_yJ9_abs_067f4)) (by decide) (Nat.le_of_ble_eq_true rfl) (by decide) (by decide) dX0_product_1 ?_
  refine lv_lload_n hx hb dX0_product_4 rfl (lv_at hl 1 rfl) ?_
  refine g_abs hx hb (by rw [hml]; exact hl.1.symm) hown (hts _ (hs _ ml_X0_72)) (hts _ (hs _ st_yJ9_abs_067f4)) (hts _ (hs _ in_J9)) (hts _ (hs _ cd_yJ9_abs_067f4)) (by decide) (Nat.le_of_ble_eq_true rfl) (by decide) (by decide) dX0_product_5 ?_
  refine g_callSlX S hs (tX0_productOfSizes l hnt t (jabs x) (jabs y)) ml_X0_75 st_yX0_productOfSizes in_X0 cd_yX0_productOfSizes hd_yX0_productOfSizes ⟨by decide, by decide⟩ hE hS hA hl.1 rfl (Nat.le_of_ble_eq_true rfl) ⟨by decide, by decide⟩ dX0_product_8 hout hlocks (fun _ h => h) (by decide) (by decide) (fun E9 hx9 t9 hF9 _ _ => ⟨(), trivial, (show jprod x y = .inl E9 from by rw [jprod, hx9, jbind_inl]), hF9⟩) (fun r_1 hr_1 => ?_)
  refine lv_lstore (lv' := [(4, .long r_1), (0, .long x), (2, .long y)]) hx hb dX0_product_11 hl (by decide) rfl (fun ls hl => ?_)
  refine lv_lload_n hx hb dX0_product_13 rfl (lv_at hl 1 rfl) ?_
  refine lv_lconst (v := 0) hx hb dX0_product_14 (by decide) ?_
  refine g_lc_ge (tgt := 23) hx hb dX0_product_15 dX0_product_16 (by decide) (fun c_2 => ?_) (fun c_2 => ?_)
  · refine lv_iconst (v := 0) hx hb dX0_product_23 (by decide) ?_
    refine lv_lload_n hx hb dX0_product_24 rfl (lv_at hl 2 rfl) ?_
    refine lv_lconst (v := 0) hx hb dX0_product_25 (by decide) ?_
    refine g_lc_ge (tgt := 34) hx hb dX0_product_26 dX0_product_27 (by decide) (fun c_3 => ?_) (fun c_3 => ?_)
    · refine lv_iconst (v := 0) hx hb dX0_product_34 (by decide) ?_
      refine lv_icmp_ne (tgt := 43) hx hb dX0_product_35 (by decide) (fun c_4 => absurd c_4 (by decide)) (fun c_4 => ?_)
      refine lv_lload hx hb dX0_product_38 (lv_at hl 0 rfl) ?_
      refine lv_goto (tgt := 46) hx hb dX0_product_40 (by decide) ?_
      exact vx_ret (W.widen (by decide) (by decide) (g_lret hx hb hr hlocks (by rw [jprod, hr_1, jbind_inr, if_pos c_2, if_pos c_3]) dX0_product_46))
    · refine lv_iconst (v := 1) hx hb dX0_product_30 (by decide) ?_
      refine lv_goto (tgt := 35) hx hb dX0_product_31 (by decide) ?_
      refine lv_icmp_ne (tgt := 43) hx hb dX0_product_35 (by decide) (fun c_5 => ?_) (fun c_5 => absurd c_5 (by decide))
      refine lv_lload hx hb dX0_product_43 (lv_at hl 0 rfl) ?_
      refine lv_lneg hx hb dX0_product_45 ?_
      exact vx_ret (W.widen (by decide) (by decide) (g_lret hx hb hr hlocks (by rw [jprod, hr_1, jbind_inr, if_pos c_2, if_neg c_3]) dX0_product_46))
  · refine lv_iconst (v := 1) hx hb dX0_product_19 (by decide) ?_
    refine lv_goto (tgt := 24) hx hb dX0_product_20 (by decide) ?_
    refine lv_lload_n hx hb dX0_product_24 rfl (lv_at hl 2 rfl) ?_
    refine lv_lconst (v := 0) hx hb dX0_product_25 (by decide) ?_
    refine g_lc_ge (tgt := 34) hx hb dX0_product_26 dX0_product_27 (by decide) (fun c_6 => ?_) (fun c_6 => ?_)
    · refine lv_iconst (v := 0) hx hb dX0_product_34 (by decide) ?_
      refine lv_icmp_ne (tgt := 43) hx hb dX0_product_35 (by decide) (fun c_7 => ?_) (fun c_7 => absurd c_7 (by decide))
      refine lv_lload hx hb dX0_product_43 (lv_at hl 0 rfl) ?_
      refine lv_lneg hx hb dX0_product_45 ?_
      exact vx_ret (W.widen (by decide) (by decide) (g_lret hx hb hr hlocks (by rw [jprod, hr_1, jbind_inr, if_neg c_2, if_pos c_6]) dX0_product_46))
    · refine lv_iconst (v := 1) hx hb dX0_product_30 (by decide) ?_
      refine lv_goto (tgt := 35) hx hb dX0_product_31 (by decide) ?_
      refine lv_icmp_ne (tgt := 43) hx hb dX0_product_35 (by decide) (fun c_8 => absurd c_8 (by decide)) (fun c_8 => ?_)
      refine lv_lload hx hb dX0_product_38 (lv_at hl 0 rfl) ?_
      refine lv_goto (tgt := 46) hx hb dX0_product_40 (by decide) ?_
      exact vx_ret (W.widen (by decide) (by decide) (g_lret hx hb hr hlocks (by rw [jprod, hr_1, jbind_inr, if_neg c_2, if_neg c_6]) dX0_product_46))
def jreckoned (op : Int32) (x : Int64) (y : Int64) : String ⊕ Int64 :=
  if y = (0 : Int64) then
    if op = (3 : Int32) then
      .inl gUOE
    else if op = (4 : Int32) then
      .inl gUOE
    else if op = (0 : Int32) then
      .inr (x + y)
    else if op = (1 : Int32) then
      .inr (x - y)
    else if op = (2 : Int32) then
      jbind (jprod x y) fun r_14 =>
        .inr r_14
    else .inr (jfloorMod x y)
  else if op = (0 : Int32) then
    .inr (x + y)
  else if op = (1 : Int32) then
    .inr (x - y)
  else if op = (2 : Int32) then
    jbind (jprod x y) fun r_5 =>
      .inr r_5
  else if op = (3 : Int32) then
    .inr (jrq (x * (10000 : Int64)) y)
  else .inr (jfloorMod x y)
set_option maxHeartbeats 4000000 in
set_option maxRecDepth 100000 in
theorem tX0_reckoned (l : Launch) (hnt : l.stackTraces = false) (t : Nat) (op : Int32) (x : Int64) (y : Int64) (hop : op = 0 ∨ op = 1 ∨ op = 2 ∨ op = 3 ∨ op = 4) : gSlX l yX0_reckoned cX0_reckoned 5 { frames := 8, cells := 1, slots := 6, locals := 150 } t [.int op, .long x, .long y] (fun z9 => jreckoned op x y = .inr z9) (fun E9 => jreckoned op x y = .inl E9) := by
  refine g_openX (by decide +kernel) (Nat.le_of_ble_eq_true rfl) ?_
  intro p e s m below meth c ls S hr hlocks hout hE hl
  obtain ⟨hx, hb, hml, hown, hts⟩ := id S
  have hs : ∀ w ∈ gws, w ∈ Cond.code yX0_reckoned cX0_reckoned 5 (some .long) :: gws := fun w h => List.mem_cons_of_mem _ h
  have hA : ∀ q, s.heap.size ≤ q → gN s.heap.size q := fun _ h => h
  have hS : va_S (gN s.heap.size) s.heap s.heap [] := va_S.rf
  have hl : lv_has ls 5 [(0, .int op), (1, .long x), (3, .long y)] := hl
  refine lv_lload_n hx hb dX0_reckoned_0 rfl (lv_at hl 2 rfl) ?_
  refine lv_lconst (v := 0) hx hb dX0_reckoned_1 (by decide) ?_
  refine g_lc_ne (tgt := 24) hx hb dX0_reckoned_2 dX0_reckoned_3 (by decide) (fun c_1 => ?_) (fun c_1 => ?_)
  · refine lv_iload_n hx hb dX0_reckoned_24 rfl (lv_at hl 0 rfl) ?_
    by_cases c_2 : op = (0 : Int32)
    · refine lv_tableIn (off := 31) (tgt := 56) hx hb dX0_reckoned_25 (by rw [c_2]; decide) (by rw [c_2]; decide) (by rw [c_2]; rfl) (by decide) ?_
      refine lv_lload_n hx hb dX0_reckoned_56 rfl (lv_at hl 1 rfl) ?_
      refine lv_lload_n hx hb dX0_reckoned_57 rfl (lv_at hl 2 rfl) ?_
      refine lv_ladd hx hb dX0_reckoned_58 ?_
      exact vx_ret (W.widen (by decide) (by decide) (g_lret hx hb hr hlocks (by rw [jreckoned, if_neg c_1, if_pos c_2]) dX0_reckoned_59))
    · by_cases c_3 : op = (1 : Int32)
      · refine lv_tableIn (off := 35) (tgt := 60) hx hb dX0_reckoned_25 (by rw [c_3]; decide) (by rw [c_3]; decide) (by rw [c_3]; rfl) (by decide) ?_
        refine lv_lload_n hx hb dX0_reckoned_60 rfl (lv_at hl 1 rfl) ?_
        refine lv_lload_n hx hb dX0_reckoned_61 rfl (lv_at hl 2 rfl) ?_
        refine lv_lsub hx hb dX0_reckoned_62 ?_
        exact vx_ret (W.widen (by decide) (by decide) (g_lret hx hb hr hlocks (by rw [jreckoned, if_neg c_1, if_neg c_2, if_pos c_3]) dX0_reckoned_63))
      · by_cases c_4 : op = (2 : Int32)
        · refine lv_tableIn (off := 39) (tgt := 64) hx hb dX0_reckoned_25 (by rw [c_4]; decide) (by rw [c_4]; decide) (by rw [c_4]; rfl) (by decide) ?_
          refine lv_lload_n hx hb dX0_reckoned_64 rfl (lv_at hl 1 rfl) ?_
          refine lv_lload_n hx hb dX0_reckoned_65 rfl (lv_at hl 2 rfl) ?_
          refine g_callSlX S hs (tX0_product l hnt t x y) ml_X0_57 st_yX0_product in_X0 cd_yX0_product hd_yX0_product ⟨by decide, by decide⟩ hE hS hA hl.1 rfl (Nat.le_of_ble_eq_true rfl) ⟨by decide, by decide⟩ dX0_reckoned_66 hout hlocks (fun _ h => h) (by decide) (by decide) (fun E9 hx9 t9 hF9 _ _ => ⟨(), trivial, (show jreckoned op x y = .inl E9 from by rw [jreckoned, if_neg c_1, if_neg c_2, if_neg c_3, if_pos c_4, hx9, jbind_inl]), hF9⟩) (fun r_5 hr_5 => ?_)
          exact vx_ret (W.widen (by decide) (by decide) (g_lret hx hb hr hlocks (by rw [jreckoned, if_neg c_1, if_neg c_2, if_neg c_3, if_pos c_4, hr_5, jbind_inr]) dX0_reckoned_69))
        · by_cases c_6 : op = (3 : Int32)
          · refine lv_tableIn (off := 45) (tgt := 70) hx hb dX0_reckoned_25 (by rw [c_6]; decide) (by rw [c_6]; decide) (by rw [c_6]; rfl) (by decide) ?_
            refine lv_lload_n hx hb dX0_reckoned_70 rfl (lv_at hl 1 rfl) ?_
            refine lv_ldc2 hx hb hown (hts _ (hs _ kl_X0_60)) dX0_reckoned_71 ?_
            refine lv_lmul hx hb dX0_reckoned_74 ?_
            refine lv_lload_n hx hb dX0_reckoned_75 rfl (lv_at hl 2 rfl) ?_
            refine g_callSl S hs (tX0_roundedQuotient l t (x * (10000 : Int64)) y (jabs_ne c_1)) ml_X0_39 st_yX0_roundedQuotient in_X0 cd_yX0_roundedQuotient hd_yX0_roundedQuotient ⟨by decide, by decide⟩ hE hS hA hl.1 rfl (Nat.le_of_ble_eq_true rfl) ⟨by decide, by decide⟩ dX0_reckoned_76 (fun r_7 hr_7 => ?_)
            subst hr_7
            exact vx_ret (W.widen (by decide) (by decide) (g_lret hx hb hr hlocks (by rw [jreckoned, if_neg c_1, if_neg c_2, if_neg c_3, if_neg c_4, if_pos c_6]) dX0_reckoned_79))
          · refine lv_tableOut (tgt := 80) hx hb dX0_reckoned_25 (g_out4 c_2 c_3 c_4 c_6) (by decide) ?_
            refine lv_lload_n hx hb dX0_reckoned_80 rfl (lv_at hl 1 rfl) ?_
            refine lv_lload_n hx hb dX0_reckoned_81 rfl (lv_at hl 2 rfl) ?_
            refine g_callSl S hs (tJ9_floorMod_f86c9 l t x y (by first | exact c_1 | (exfalso; rcases hop with h | h | h | h | h <;> simp_all))) ml_X0_62 st_yJ9_floorMod_f86c9 in_J9 cd_yJ9_floorMod_f86c9 hd_yJ9_floorMod_f86c9 ⟨by decide, by decide⟩ hE hS hA hl.1 rfl (Nat.le_of_ble_eq_true rfl) ⟨by decide, by decide⟩ dX0_reckoned_82 (fun r_8 hr_8 => ?_)
            subst hr_8
            exact vx_ret (W.widen (by decide) (by decide) (g_lret hx hb hr hlocks (by rw [jreckoned, if_neg c_1, if_neg c_2, if_neg c_3, if_neg c_4, if_neg c_6]) dX0_reckoned_85))
  · refine lv_iload_n hx hb dX0_reckoned_6 rfl (lv_at hl 0 rfl) ?_
    refine lv_iconst (v := 3) hx hb dX0_reckoned_7 (by decide) ?_
    refine lv_icmp_eq (tgt := 16) hx hb dX0_reckoned_8 (by decide) (fun c_9 => ?_) (fun c_9 => ?_)
    · exact g_throw S hs hnt (by decide +kernel) cl_X0_54 in_UnsupportedOperationException gt_UOE1 gt_UOE2 gt_UOE3 hE hS hl.1 dX0_reckoned_16 dX0_reckoned_19 dX0_reckoned_20 dX0_reckoned_23 hout hlocks (by decide) (Nat.le_of_ble_eq_true rfl) (by decide) (by decide) (fun _ h => h) (by decide) (by decide) (fun t9 hF9 _ _ => ⟨(), trivial, (show jreckoned op x y = .inl gUOE from by rw [jreckoned, if_pos c_1, if_pos c_9]), hF9⟩)
    · refine lv_iload_n hx hb dX0_reckoned_11 rfl (lv_at hl 0 rfl) ?_
      refine lv_iconst (v := 4) hx hb dX0_reckoned_12 (by decide) ?_
      refine lv_icmp_ne (tgt := 24) hx hb dX0_reckoned_13 (by decide) (fun c_10 => ?_) (fun c_10 => ?_)
      · refine lv_iload_n hx hb dX0_reckoned_24 rfl (lv_at hl 0 rfl) ?_
        by_cases c_11 : op = (0 : Int32)
        · refine lv_tableIn (off := 31) (tgt := 56) hx hb dX0_reckoned_25 (by rw [c_11]; decide) (by rw [c_11]; decide) (by rw [c_11]; rfl) (by decide) ?_
          refine lv_lload_n hx hb dX0_reckoned_56 rfl (lv_at hl 1 rfl) ?_
          refine lv_lload_n hx hb dX0_reckoned_57 rfl (lv_at hl 2 rfl) ?_
          refine lv_ladd hx hb dX0_reckoned_58 ?_
          exact vx_ret (W.widen (by decide) (by decide) (g_lret hx hb hr hlocks (by rw [jreckoned, if_pos c_1, if_neg c_9, if_neg c_10, if_pos c_11]) dX0_reckoned_59))
        · by_cases c_12 : op = (1 : Int32)
          · refine lv_tableIn (off := 35) (tgt := 60) hx hb dX0_reckoned_25 (by rw [c_12]; decide) (by rw [c_12]; decide) (by rw [c_12]; rfl) (by decide) ?_
            refine lv_lload_n hx hb dX0_reckoned_60 rfl (lv_at hl 1 rfl) ?_
            refine lv_lload_n hx hb dX0_reckoned_61 rfl (lv_at hl 2 rfl) ?_
            refine lv_lsub hx hb dX0_reckoned_62 ?_
            exact vx_ret (W.widen (by decide) (by decide) (g_lret hx hb hr hlocks (by rw [jreckoned, if_pos c_1, if_neg c_9, if_neg c_10, if_neg c_11, if_pos c_12]) dX0_reckoned_63))
          · by_cases c_13 : op = (2 : Int32)
            · refine lv_tableIn (off := 39) (tgt := 64) hx hb dX0_reckoned_25 (by rw [c_13]; decide) (by rw [c_13]; decide) (by rw [c_13]; rfl) (by decide) ?_
              refine lv_lload_n hx hb dX0_reckoned_64 rfl (lv_at hl 1 rfl) ?_
              refine lv_lload_n hx hb dX0_reckoned_65 rfl (lv_at hl 2 rfl) ?_
              refine g_callSlX S hs (tX0_product l hnt t x y) ml_X0_57 st_yX0_product in_X0 cd_yX0_product hd_yX0_product ⟨by decide, by decide⟩ hE hS hA hl.1 rfl (Nat.le_of_ble_eq_true rfl) ⟨by decide, by decide⟩ dX0_reckoned_66 hout hlocks (fun _ h => h) (by decide) (by decide) (fun E9 hx9 t9 hF9 _ _ => ⟨(), trivial, (show jreckoned op x y = .inl E9 from by rw [jreckoned, if_pos c_1, if_neg c_9, if_neg c_10, if_neg c_11, if_neg c_12, if_pos c_13, hx9, jbind_inl]), hF9⟩) (fun r_14 hr_14 => ?_)
              exact vx_ret (W.widen (by decide) (by decide) (g_lret hx hb hr hlocks (by rw [jreckoned, if_pos c_1, if_neg c_9, if_neg c_10, if_neg c_11, if_neg c_12, if_pos c_13, hr_14, jbind_inr]) dX0_reckoned_69))
            · refine lv_tableOut (tgt := 80) hx hb dX0_reckoned_25 (g_out4 c_11 c_12 c_13 c_9) (by decide) ?_
              refine lv_lload_n hx hb dX0_reckoned_80 rfl (lv_at hl 1 rfl) ?_
              refine lv_lload_n hx hb dX0_reckoned_81 rfl (lv_at hl 2 rfl) ?_
              refine g_callSl S hs (tJ9_floorMod_f86c9 l t x y (by first | exact c_1 | (exfalso; rcases hop with h | h | h | h | h <;> simp_all))) ml_X0_62 st_yJ9_floorMod_f86c9 in_J9 cd_yJ9_floorMod_f86c9 hd_yJ9_floorMod_f86c9 ⟨by decide, by decide⟩ hE hS hA hl.1 rfl (Nat.le_of_ble_eq_true rfl) ⟨by decide, by decide⟩ dX0_reckoned_82 (fun r_16 hr_16 => ?_)
              subst hr_16
              exact vx_ret (W.widen (by decide) (by decide) (g_lret hx hb hr hlocks (by rw [jreckoned, if_pos c_1, if_neg c_9, if_neg c_10, if_neg c_11, if_neg c_12, if_neg c_13]) dX0_reckoned_85))
      · exact g_throw S hs hnt (by decide +kernel) cl_X0_54 in_UnsupportedOperationException gt_UOE1 gt_UOE2 gt_UOE3 hE hS hl.1 dX0_reckoned_16 dX0_reckoned_19 dX0_reckoned_20 dX0_reckoned_23 hout hlocks (by decide) (Nat.le_of_ble_eq_true rfl) (by decide) (by decide) (fun _ h => h) (by decide) (by decide) (fun t9 hF9 _ _ => ⟨(), trivial, (show jreckoned op x y = .inl gUOE from by rw [jreckoned, if_pos c_1, if_neg c_9, if_pos c_10]), hF9⟩)
def jturned (op : Int32) (x : Int64) : Int64 :=
  if op = (0 : Int32) then
    jrq x (100 : Int64)
  else if op = (1 : Int32) then
    (jfloorDiv x (10000 : Int64)) * (10000 : Int64)
  else if op = (2 : Int32) then
    jabs x
  else -x
set_option maxHeartbeats 4000000 in
set_option maxRecDepth 100000 in
theorem tX0_turned (l : Launch) (t : Nat) (op : Int32) (x : Int64) : gSl l yX0_turned cX0_turned 3 { frames := 3, cells := 0, slots := 0, locals := 80 } t [.int op, .long x] (fun z9 => z9 = jturned op x) := by
  refine g_openl (by decide +kernel) (Nat.le_of_ble_eq_true rfl) ?_
  intro p e s m below meth c ls S hr hlocks hE hl
  obtain ⟨hx, hb, hml, hown, hts⟩ := id S
  have hs : ∀ w ∈ gws, w ∈ Cond.code yX0_turned cX0_turned 3 (some .long) :: gws := fun w h => List.mem_cons_of_mem _ h
  have hA : ∀ q, s.heap.size ≤ q → gN s.heap.size q := fun _ h => h
  have hS : va_S (gN s.heap.size) s.heap s.heap [] := va_S.rf
  have hl : lv_has ls 3 [(0, .int op), (1, .long x)] := hl
  refine lv_iload_n hx hb dX0_turned_0 rfl (lv_at hl 0 rfl) ?_
  by_cases c_1 : op = (0 : Int32)
  · refine lv_tableIn (off := 27) (tgt := 28) hx hb dX0_turned_1 (by rw [c_1]; decide) (by rw [c_1]; decide) (by rw [c_1]; rfl) (by decide) ?_
    refine lv_lload_n hx hb dX0_turned_28 rfl (lv_at hl 1 rfl) ?_
    refine lv_ldc2 hx hb hown (hts _ (hs _ kl_X0_67)) dX0_turned_29 ?_
    refine g_callSl S hs (tX0_roundedQuotient l t x (100 : Int64) (by decide)) ml_X0_39 st_yX0_roundedQuotient in_X0 cd_yX0_roundedQuotient hd_yX0_roundedQuotient ⟨by decide, by decide⟩ hE hS hA hl.1 rfl (Nat.le_of_ble_eq_true rfl) ⟨by decide, by decide⟩ dX0_turned_32 (fun r_2 hr_2 => ?_)
    subst hr_2
    exact g_lret hx hb hr hlocks (by rw [jturned, if_pos c_1]) dX0_turned_35
  · by_cases c_3 : op = (1 : Int32)
    · refine lv_tableIn (off := 35) (tgt := 36) hx hb dX0_turned_1 (by rw [c_3]; decide) (by rw [c_3]; decide) (by rw [c_3]; rfl) (by decide) ?_
      refine lv_lload_n hx hb dX0_turned_36 rfl (lv_at hl 1 rfl) ?_
      refine lv_ldc2 hx hb hown (hts _ (hs _ kl_X0_60)) dX0_turned_37 ?_
      refine g_callSl S hs (tJ9_floorDiv_f86c9 l t x (10000 : Int64) (by decide)) ml_X0_69 st_yJ9_floorDiv_f86c9 in_J9 cd_yJ9_floorDiv_f86c9 hd_yJ9_floorDiv_f86c9 ⟨by decide, by decide⟩ hE hS hA hl.1 rfl (Nat.le_of_ble_eq_true rfl) ⟨by decide, by decide⟩ dX0_turned_40 (fun r_4 hr_4 => ?_)
      subst hr_4
      refine lv_ldc2 hx hb hown (hts _ (hs _ kl_X0_60)) dX0_turned_43 ?_
      refine lv_lmul hx hb dX0_turned_46 ?_
      exact g_lret hx hb hr hlocks (by rw [jturned, if_neg c_1, if_pos c_3]) dX0_turned_47
    · by_cases c_5 : op = (2 : Int32)
      · refine lv_tableIn (off := 47) (tgt := 48) hx hb dX0_turned_1 (by rw [c_5]; decide) (by rw [c_5]; decide) (by rw [c_5]; rfl) (by decide) ?_
        refine lv_lload_n hx hb dX0_turned_48 rfl (lv_at hl 1 rfl) ?_
        refine g_abs hx hb (by rw [hml]; exact hl.1.symm) hown (hts _ (hs _ ml_X0_72)) (hts _ (hs _ st_yJ9_abs_067f4)) (hts _ (hs _ in_J9)) (hts _ (hs _ cd_yJ9_abs_067f4)) (by decide) (Nat.le_of_ble_eq_true rfl) (by decide) (by decide) dX0_turned_49 ?_
        exact g_lret hx hb hr hlocks (by rw [jturned, if_neg c_1, if_neg c_3, if_pos c_5]) dX0_turned_52
      · refine lv_tableOut (tgt := 53) hx hb dX0_turned_1 (g_out3 c_1 c_3 c_5) (by decide) ?_
        refine lv_lload_n hx hb dX0_turned_53 rfl (lv_at hl 1 rfl) ?_
        refine lv_lneg hx hb dX0_turned_54 ?_
        exact g_lret hx hb hr hlocks (by rw [jturned, if_neg c_1, if_neg c_3, if_neg c_5]) dX0_turned_55
theorem gP_ne {x : Int32} (h : vp_in x 14) : ¬ gP x.toNatClampNeg = 0 := by
  obtain ⟨j, hj, rfl⟩ := vp_in_of h (by decide)
  rw [nI_clamp (by omega)]
  have key : ∀ j, j < 14 → ¬ gP j = 0 := by decide
  exact key j hj
def jdigit (n : Int64) (place : Int32) : Int32 :=
  (48 : Int32) + (((n / (gP place.toNatClampNeg)) - (n / (gP place.toNatClampNeg)) / (10 : Int64) * (10 : Int64)).toInt32)
set_option maxHeartbeats 4000000 in
set_option maxRecDepth 100000 in
theorem tX0_digit (l : Launch) (t : Nat) (n : Int64) (place : Int32) (hp : vp_in place 14) : gSi l yX0_digit cX0_digit 3 .int { frames := 0, cells := 0, slots := 0, locals := 0 } t [.long n, .int place] (fun z9 => z9 = jdigit n place) := by
  refine g_openi (by decide +kernel) (Nat.le_of_ble_eq_true rfl) ?_
  intro p e s m below meth c ls S hr hlocks hE hl
  obtain ⟨hx, hb, hml, hown, hts⟩ := id S
  have hs : ∀ w ∈ gws, w ∈ Cond.code yX0_digit cX0_digit 3 (some .int) :: gws := fun w h => List.mem_cons_of_mem _ h
  have hA : ∀ q, s.heap.size ≤ q → gN s.heap.size q := fun _ h => h
  have hS : va_S (gN s.heap.size) s.heap s.heap [] := va_S.rf
  have hl : lv_has ls 3 [(0, .long n), (2, .int place)] := hl
  refine lv_bipush (v := 48) hx hb dX0_digit_0 (by decide) ?_
  refine lv_lload_n hx hb dX0_digit_2 rfl (lv_at hl 0 rfl) ?_
  refine va_gets hx hb hE.2.2.2.2.1 hS hown (hts _ (hs _ fl_X0_36)) (fun _ h => h) dX0_digit_3 ?_
  refine lv_iload_n hx hb dX0_digit_6 rfl (lv_at hl 1 rfl) ?_
  refine va_tl hx hb hE.2.2.2.2.2 hS (hp) rfl dX0_digit_7 ?_
  refine lv_ldiv hx hb dX0_digit_8 (gP_ne hp) ?_
  refine lv_ldc2 hx hb hown (hts _ (hs _ kl_X0_88)) dX0_digit_9 ?_
  refine lv_lrem hx hb dX0_digit_12 (by decide) ?_
  refine lv_l2i hx hb dX0_digit_13 rfl ?_
  refine lv_iadd hx hb dX0_digit_14 ?_
  exact g_iret hx hb hr hlocks (by rw [jdigit]) dX0_digit_15
theorem g_ixA {i : Int32} (h0 : ¬ i < 0) (h4 : ¬ (4 : Int32) < i) : vp_in ((4 : Int32) - i) 14 ∧ vp_in ((4 : Int32) - i + (1 : Int32)) 14 := by
  obtain ⟨j, hj, rfl⟩ := nI_of2 (M := 4) (n := 4) rfl h0 (by simpa using h4)
  have key : ∀ j, j < 5 → ¬ ((4 : Int32) - nI j < 0 ∨ 14 ≤ ((4 : Int32) - nI j).toNatClampNeg) ∧ ¬ ((4 : Int32) - nI j + (1 : Int32) < 0 ∨ 14 ≤ ((4 : Int32) - nI j + (1 : Int32)).toNatClampNeg) := by decide
  exact key j (by omega)
def jbehind (fr : Int64) (i : Int32) : Int32 :=
  if (4 : Int32) < i then
    (-1 : Int32)
  else if fr = (0 : Int64) then
    (-1 : Int32)
  else if i = (0 : Int32) then
    (46 : Int32)
  else if (fr - fr / (gP (((4 : Int32) - i) + (1 : Int32)).toNatClampNeg) * (gP (((4 : Int32) - i) + (1 : Int32)).toNatClampNeg)) = (0 : Int64) then
    (-1 : Int32)
  else jdigit fr ((4 : Int32) - i)
set_option maxHeartbeats 4000000 in
set_option maxRecDepth 100000 in
theorem tX0_byteBehindWhole (l : Launch) (t : Nat) (fr : Int64) (i : Int32) (hi : ¬ i < 0) : gSi l yX0_byteBehindWhole cX0_byteBehindWhole 5 .int { frames := 1, cells := 0, slots := 0, locals := 30 } t [.long fr, .int i] (fun z9 => z9 = jbehind fr i) := by
  refine g_openi (by decide +kernel) (Nat.le_of_ble_eq_true rfl) ?_
  intro p e s m below meth c ls S hr hlocks hE hl
  obtain ⟨hx, hb, hml, hown, hts⟩ := id S
  have hs : ∀ w ∈ gws, w ∈ Cond.code yX0_byteBehindWhole cX0_byteBehindWhole 5 (some .int) :: gws := fun w h => List.mem_cons_of_mem _ h
  have hA : ∀ q, s.heap.size ≤ q → gN s.heap.size q := fun _ h => h
  have hS : va_S (gN s.heap.size) s.heap s.heap [] := va_S.rf
  have hl : lv_has ls 5 [(0, .long fr), (2, .int i)] := hl
  refine lv_iload_n hx hb dX0_byteBehindWhole_0 rfl (lv_at hl 1 rfl) ?_
  refine lv_iconst (v := 4) hx hb dX0_byteBehindWhole_1 (by decide) ?_
  refine lv_icmp_gt (tgt := 11) hx hb dX0_byteBehindWhole_2 (by decide) (fun c_1 => ?_) (fun c_1 => ?_)
  · refine lv_iconst (v := (-1)) hx hb dX0_byteBehindWhole_11 (by decide) ?_
    exact g_iret hx hb hr hlocks (by rw [jbehind, if_pos c_1]) dX0_byteBehindWhole_12
  · refine lv_lload_n hx hb dX0_byteBehindWhole_5 rfl (lv_at hl 0 rfl) ?_
    refine lv_lconst (v := 0) hx hb dX0_byteBehindWhole_6 (by decide) ?_
    refine g_lc_ne (tgt := 13) hx hb dX0_byteBehindWhole_7 dX0_byteBehindWhole_8 (by decide) (fun c_2 => ?_) (fun c_2 => ?_)
    · refine lv_iload_n hx hb dX0_byteBehindWhole_13 rfl (lv_at hl 1 rfl) ?_
      refine lv_if_ne (tgt := 20) hx hb dX0_byteBehindWhole_14 (by decide) (fun c_3 => ?_) (fun c_3 => ?_)
      · refine lv_iconst (v := 4) hx hb dX0_byteBehindWhole_20 (by decide) ?_
        refine lv_iload_n hx hb dX0_byteBehindWhole_21 rfl (lv_at hl 1 rfl) ?_
        refine lv_isub hx hb dX0_byteBehindWhole_22 ?_
        refine lv_istore_n (lv' := [(3, .int ((4 : Int32) - i)), (0, .long fr), (2, .int i)]) hx hb dX0_byteBehindWhole_23 rfl hl (by decide) rfl (fun ls hl => ?_)
        refine lv_lload_n hx hb dX0_byteBehindWhole_24 rfl (lv_at hl 1 rfl) ?_
        refine va_gets hx hb hE.2.2.2.2.1 hS hown (hts _ (hs _ fl_X0_36)) (fun _ h => h) dX0_byteBehindWhole_25 ?_
        refine lv_iload_n hx hb dX0_byteBehindWhole_28 rfl (lv_at hl 0 rfl) ?_
        refine lv_iconst (v := 1) hx hb dX0_byteBehindWhole_29 (by decide) ?_
        refine lv_iadd hx hb dX0_byteBehindWhole_30 ?_
        refine va_tl hx hb hE.2.2.2.2.2 hS ((g_ixA hi c_1).2) rfl dX0_byteBehindWhole_31 ?_
        refine lv_lrem hx hb dX0_byteBehindWhole_32 (gP_ne (g_ixA hi c_1).2) ?_
        refine lv_lconst (v := 0) hx hb dX0_byteBehindWhole_33 (by decide) ?_
        refine g_lc_ne (tgt := 42) hx hb dX0_byteBehindWhole_34 dX0_byteBehindWhole_35 (by decide) (fun c_4 => ?_) (fun c_4 => ?_)
        · refine lv_iconst (v := 0) hx hb dX0_byteBehindWhole_42 (by decide) ?_
          refine lv_istore (lv' := [(4, .int (0 : Int32)), (3, .int ((4 : Int32) - i)), (0, .long fr), (2, .int i)]) hx hb dX0_byteBehindWhole_43 hl (by decide) rfl (fun ls hl => ?_)
          refine lv_iload hx hb dX0_byteBehindWhole_45 (lv_at hl 0 rfl) ?_
          refine lv_if_eq (tgt := 54) hx hb dX0_byteBehindWhole_47 (by decide) (fun c_5 => ?_) (fun c_5 => absurd c_5 (by decide))
          refine lv_lload_n hx hb dX0_byteBehindWhole_54 rfl (lv_at hl 2 rfl) ?_
          refine lv_iload_n hx hb dX0_byteBehindWhole_55 rfl (lv_at hl 1 rfl) ?_
          refine g_callSi S hs (tX0_digit l t fr ((4 : Int32) - i) (g_ixA hi c_1).1) ml_X0_82 st_yX0_digit in_X0 cd_yX0_digit hd_yX0_digit ⟨by decide, by decide⟩ hE hS hA hl.1 rfl (Nat.le_of_ble_eq_true rfl) ⟨by decide, by decide⟩ dX0_byteBehindWhole_56 (fun r_6 hr_6 => ?_)
          subst hr_6
          exact g_iret hx hb hr hlocks (by rw [jbehind, if_neg c_1, if_neg c_2, if_neg c_3, if_neg c_4]) dX0_byteBehindWhole_59
        · refine lv_iconst (v := 1) hx hb dX0_byteBehindWhole_38 (by decide) ?_
          refine lv_goto (tgt := 43) hx hb dX0_byteBehindWhole_39 (by decide) ?_
          refine lv_istore (lv' := [(4, .int (1 : Int32)), (3, .int ((4 : Int32) - i)), (0, .long fr), (2, .int i)]) hx hb dX0_byteBehindWhole_43 hl (by decide) rfl (fun ls hl => ?_)
          refine lv_iload hx hb dX0_byteBehindWhole_45 (lv_at hl 0 rfl) ?_
          refine lv_if_eq (tgt := 54) hx hb dX0_byteBehindWhole_47 (by decide) (fun c_7 => absurd c_7 (by decide)) (fun c_7 => ?_)
          refine lv_iconst (v := (-1)) hx hb dX0_byteBehindWhole_50 (by decide) ?_
          refine lv_goto (tgt := 59) hx hb dX0_byteBehindWhole_51 (by decide) ?_
          exact g_iret hx hb hr hlocks (by rw [jbehind, if_neg c_1, if_neg c_2, if_neg c_3, if_pos c_4]) dX0_byteBehindWhole_59
      · refine lv_bipush (v := 46) hx hb dX0_byteBehindWhole_17 (by decide) ?_
        exact g_iret hx hb hr hlocks (by rw [jbehind, if_neg c_1, if_neg c_2, if_pos c_3]) dX0_byteBehindWhole_19
    · refine lv_iconst (v := (-1)) hx hb dX0_byteBehindWhole_11 (by decide) ?_
      exact g_iret hx hb hr hlocks (by rw [jbehind, if_neg c_1, if_pos c_2]) dX0_byteBehindWhole_12
/-- digits before the point, counted: fuel, then how many so far -/
def jwdF (x : Int64) : Nat → Nat → Nat
  | 0, k => k
  | n + 1, k => if k < 11 ∧ gP k ≤ x then jwdF x n (k + 1) else k
def jwd (x : Int64) : Int32 := nI (jwdF x 11 1)
theorem jwdF_range (x : Int64) : ∀ n k, 1 ≤ k → k ≤ 11 → 1 ≤ jwdF x n k ∧ jwdF x n k ≤ 11
  | 0, k, h1, h2 => ⟨h1, h2⟩
  | n + 1, k, h1, h2 => by
    rw [jwdF]
    split
    next h => exact jwdF_range x n (k + 1) (by omega) (by omega)
    next => exact ⟨h1, h2⟩
theorem jwd_at (x : Int64) : ∃ w, 1 ≤ w ∧ w ≤ 11 ∧ jwd x = nI w := ⟨jwdF x 11 1, (jwdF_range x 11 1 (by omega) (by omega)).1, (jwdF_range x 11 1 (by omega) (by omega)).2, rfl⟩
set_option maxHeartbeats 4000000 in
set_option maxRecDepth 100000 in
theorem tX0_wholeDigits (l : Launch) (t : Nat) (x : Int64) : gSi l yX0_wholeDigits cX0_wholeDigits 3 .int { frames := 0, cells := 0, slots := 0, locals := 0 } t [.long x] (fun z9 => z9 = jwd x) := by
  refine g_openi (by decide +kernel) (Nat.le_of_ble_eq_true rfl) ?_
  intro p e s m below meth c ls S hr hlocks hE hl
  obtain ⟨hx, hb, hml, hown, hts⟩ := id S
  have hs : ∀ w ∈ gws, w ∈ Cond.code yX0_wholeDigits cX0_wholeDigits 3 (some .int) :: gws := fun w h => List.mem_cons_of_mem _ h
  have hS : va_S (gN s.heap.size) s.heap s.heap [] := va_S.rf
  have hl : lv_has ls 3 [(0, .long x)] := hl
  refine lv_iconst (v := 1) hx hb dX0_wholeDigits_0 (by decide) ?_
  refine lv_istore_n (lv' := [(2, .int (1 : Int32)), (0, .long x)]) hx hb dX0_wholeDigits_1 rfl hl (by decide) rfl (fun ls hl => ?_)
  have loop : ∀ (n k : Nat) (ls : Array Slot), k ≤ 11 → 12 ≤ k + n → jwdF x n k = jwdF x 11 1 → lv_has ls 3 [(2, .int (nI k)), (0, .long x)] →
      W p l e { frames := 0, cells := 0, slots := 0, locals := 0 } s m [Value.long x].toArray below meth c s.heap [] 0 0 (MQ below (va_Qi (fun r (_ : Unit) => (fun z9 => z9 = jwd x) r) (fun _ t' => t'.heap.size = s.heap.size) (gN s.heap.size)) [Value.long x].toArray s 0 0 (gN s.heap.size)) (F0 m 2 ls []) := by
    intro n
    induction n with
    | zero => intro k ls h1 h2; omega
    | succ n ih =>
      intro k ls hk hn heq hl
      have e11 : (11 : Int32) = nI 11 := by decide
      refine lv_iload_n hx hb dX0_wholeDigits_2 rfl (lv_at hl 0 rfl) ?_
      refine lv_bipush (v := 11) hx hb dX0_wholeDigits_3 (by decide) ?_
      refine lv_icmp_ge (tgt := 24) hx hb dX0_wholeDigits_5 (by decide) (fun c_1 => ?_) (fun c_1 => ?_)
      · rw [e11, nI_leI (by omega) (by omega)] at c_1
        refine lv_iload_n hx hb dX0_wholeDigits_24 rfl (lv_at hl 0 rfl) ?_
        exact g_iret hx hb hr hlocks (show nI k = jwd x from by rw [jwd, ← heq, jwdF, if_neg (fun q => by omega)]) dX0_wholeDigits_25
      · rw [e11, nI_leI (by omega) (by omega)] at c_1
        refine lv_lload_n hx hb dX0_wholeDigits_8 rfl (lv_at hl 1 rfl) ?_
        refine va_gets hx hb hE.2.2.2.2.1 hS hown (hts _ (hs _ fl_X0_36)) (fun _ h => h) dX0_wholeDigits_9 ?_
        refine lv_iload_n hx hb dX0_wholeDigits_12 rfl (lv_at hl 0 rfl) ?_
        refine va_tl hx hb hE.2.2.2.2.2 hS (vp_in_nI (by omega) (by decide)) rfl dX0_wholeDigits_13 ?_
        refine g_lc_lt (tgt := 24) hx hb dX0_wholeDigits_14 dX0_wholeDigits_15 (by decide) (fun c_2 => ?_) (fun c_2 => ?_)
        · rw [nI_clamp (by omega)] at c_2
          refine lv_iload_n hx hb dX0_wholeDigits_24 rfl (lv_at hl 0 rfl) ?_
          exact g_iret hx hb hr hlocks (show nI k = jwd x from by rw [jwd, ← heq, jwdF, if_neg (fun q => Int64.not_lt.mpr q.2 c_2)]) dX0_wholeDigits_25
        · rw [nI_clamp (by omega)] at c_2
          refine lv_iinc (lv' := [(2, .int (nI k + 1)), (0, .long x)]) hx hb dX0_wholeDigits_18 hl (k := 0) rfl rfl (by decide) rfl (fun ls hl => ?_)
          refine lv_goto (tgt := 2) hx hb dX0_wholeDigits_21 (by decide) ?_
          exact ih (k + 1) ls (by omega) (by omega) (by rw [← heq, jwdF, if_pos ⟨by omega, Int64.not_lt.mp c_2⟩]) (by rw [← nI_1]; exact hl)
  exact loop 11 1 ls (by omega) (by omega) rfl hl
theorem g_ixB {i : Int32} {w : Nat} (h1 : 1 ≤ w) (h2 : w ≤ 11) (h0 : ¬ i < 0) (h : ¬ nI w ≤ i) : vp_in (nI w - (1 : Int32) - i) 14 := by
  obtain ⟨j, hj, rfl⟩ := nI_of h0
  rw [nI_leI (by omega) (by omega)] at h
  have e : nI w - (1 : Int32) - nI j = nI (w - 1 - j) := by
    rw [show (1 : Int32) = nI 1 from by decide, pk_sub (by omega), pk_sub (by omega)]
  rw [e]
  exact vp_in_nI (by omega) (by decide)
theorem g_ixC {i : Int32} {w : Nat} (h2 : w ≤ 11) (h0 : ¬ i < 0) (h : nI w ≤ i) : ¬ i - nI w < 0 := by
  obtain ⟨j, hj, rfl⟩ := nI_of h0
  rw [nI_leI (by omega) (by omega)] at h
  rw [pk_sub h]
  exact nI_pos (by omega)
theorem g_ixB' {i : Int32} (x : Int64) (h0 : ¬ i < 0) (h : ¬ jwd x ≤ i) : vp_in (jwd x - (1 : Int32) - i) 14 := by
  obtain ⟨w, h1, h2, e⟩ := jwd_at x
  rw [e] at h ⊢
  exact g_ixB h1 h2 h0 h
theorem g_ixC' {i : Int32} (x : Int64) (h0 : ¬ i < 0) (h : jwd x ≤ i) : ¬ i - jwd x < 0 := by
  obtain ⟨w, h1, h2, e⟩ := jwd_at x
  rw [e] at h ⊢
  exact g_ixC h2 h0 h
def jbyte (n : Int64) (i : Int32) : Int32 :=
  if (jwd (n / (10000 : Int64))) ≤ i then
    jbehind (n - n / (10000 : Int64) * (10000 : Int64)) (i - (jwd (n / (10000 : Int64))))
  else jdigit (n / (10000 : Int64)) (((jwd (n / (10000 : Int64))) - (1 : Int32)) - i)
set_option maxHeartbeats 4000000 in
set_option maxRecDepth 100000 in
theorem tX0_printedByte (l : Launch) (t : Nat) (n : Int64) (i : Int32) (hi : ¬ i < 0) : gSi l yX0_printedByte cX0_printedByte 6 .int { frames := 2, cells := 0, slots := 0, locals := 60 } t [.long n, .int i] (fun z9 => z9 = jbyte n i) := by
  refine g_openi (by decide +kernel) (Nat.le_of_ble_eq_true rfl) ?_
  intro p e s m below meth c ls S hr hlocks hE hl
  obtain ⟨hx, hb, hml, hown, hts⟩ := id S
  have hs : ∀ w ∈ gws, w ∈ Cond.code yX0_printedByte cX0_printedByte 6 (some .int) :: gws := fun w h => List.mem_cons_of_mem _ h
  have hA : ∀ q, s.heap.size ≤ q → gN s.heap.size q := fun _ h => h
  have hS : va_S (gN s.heap.size) s.heap s.heap [] := va_S.rf
  have hl : lv_has ls 6 [(0, .long n), (2, .int i)] := hl
  refine lv_lload_n hx hb dX0_printedByte_0 rfl (lv_at hl 0 rfl) ?_
  refine lv_ldc2 hx hb hown (hts _ (hs _ kl_X0_60)) dX0_printedByte_1 ?_
  refine lv_ldiv hx hb dX0_printedByte_4 (by decide) ?_
  refine lv_lstore_n (lv' := [(3, .long (n / (10000 : Int64))), (0, .long n), (2, .int i)]) hx hb dX0_printedByte_5 rfl hl (by decide) rfl (fun ls hl => ?_)
  refine lv_lload_n hx hb dX0_printedByte_6 rfl (lv_at hl 0 rfl) ?_
  refine g_callSi S hs (tX0_wholeDigits l t (n / (10000 : Int64))) ml_X0_78 st_yX0_wholeDigits in_X0 cd_yX0_wholeDigits hd_yX0_wholeDigits ⟨by decide, by decide⟩ hE hS hA hl.1 rfl (Nat.le_of_ble_eq_true rfl) ⟨by decide, by decide⟩ dX0_printedByte_7 (fun r_1 hr_1 => ?_)
  subst hr_1
  refine lv_istore (lv' := [(5, .int (jwd (n / (10000 : Int64)))), (3, .long (n / (10000 : Int64))), (0, .long n), (2, .int i)]) hx hb dX0_printedByte_10 hl (by decide) rfl (fun ls hl => ?_)
  refine lv_iload_n hx hb dX0_printedByte_12 rfl (lv_at hl 3 rfl) ?_
  refine lv_iload hx hb dX0_printedByte_13 (lv_at hl 0 rfl) ?_
  refine lv_icmp_ge (tgt := 29) hx hb dX0_printedByte_15 (by decide) (fun c_2 => ?_) (fun c_2 => ?_)
  · refine lv_lload_n hx hb dX0_printedByte_29 rfl (lv_at hl 2 rfl) ?_
    refine lv_ldc2 hx hb hown (hts _ (hs _ kl_X0_60)) dX0_printedByte_30 ?_
    refine lv_lrem hx hb dX0_printedByte_33 (by decide) ?_
    refine lv_iload_n hx hb dX0_printedByte_34 rfl (lv_at hl 3 rfl) ?_
    refine lv_iload hx hb dX0_printedByte_35 (lv_at hl 0 rfl) ?_
    refine lv_isub hx hb dX0_printedByte_37 ?_
    refine g_callSi S hs (tX0_byteBehindWhole l t (n - n / (10000 : Int64) * (10000 : Int64)) (i - (jwd (n / (10000 : Int64)))) (g_ixC' _ hi c_2)) ml_X0_85 st_yX0_byteBehindWhole in_X0 cd_yX0_byteBehindWhole hd_yX0_byteBehindWhole ⟨by decide, by decide⟩ hE hS hA hl.1 rfl (Nat.le_of_ble_eq_true rfl) ⟨by decide, by decide⟩ dX0_printedByte_38 (fun r_3 hr_3 => ?_)
    subst hr_3
    exact g_iret hx hb hr hlocks (by rw [jbyte, if_pos c_2]) dX0_printedByte_41
  · refine lv_lload_n hx hb dX0_printedByte_18 rfl (lv_at hl 1 rfl) ?_
    refine lv_iload hx hb dX0_printedByte_19 (lv_at hl 0 rfl) ?_
    refine lv_iconst (v := 1) hx hb dX0_printedByte_21 (by decide) ?_
    refine lv_isub hx hb dX0_printedByte_22 ?_
    refine lv_iload_n hx hb dX0_printedByte_23 rfl (lv_at hl 3 rfl) ?_
    refine lv_isub hx hb dX0_printedByte_24 ?_
    refine g_callSi S hs (tX0_digit l t (n / (10000 : Int64)) (((jwd (n / (10000 : Int64))) - (1 : Int32)) - i) (g_ixB' _ hi c_2)) ml_X0_82 st_yX0_digit in_X0 cd_yX0_digit hd_yX0_digit ⟨by decide, by decide⟩ hE hS hA hl.1 rfl (Nat.le_of_ble_eq_true rfl) ⟨by decide, by decide⟩ dX0_printedByte_25 (fun r_4 hr_4 => ?_)
    subst hr_4
    exact g_iret hx hb hr hlocks (by rw [jbyte, if_neg c_2]) dX0_printedByte_28
