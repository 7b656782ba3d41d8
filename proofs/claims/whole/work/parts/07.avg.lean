/-! ===== the class: average, and the constructor ===== -/
/-- the running sum: fuel, the next register, the sum so far -/
def javgF (f : Nat → Int64) (n : Nat) : Nat → Nat → Int64 → String ⊕ Int64
  | 0, _, v => .inr v
  | i + 1, k, v => if k < n then jbind (jlimited (v + f k)) (fun r => javgF f n i (k + 1) r) else .inr v
def javerage (f : Nat → Int64) (n : Int32) : String ⊕ (Int64 × (Nat → Int64)) :=
  if n < (1 : Int32) then .inl gIAE
  else if n ≤ (8 : Int32) then jbind (javgF f n.toNatClampNeg 9 0 0) fun v => .inr (jrq v n.toInt64, f)
  else .inl gIAE
theorem g_n8 {n : Int32} (h1 : ¬ n < (1 : Int32)) (h2 : n ≤ (8 : Int32)) : ∃ N : Nat, 1 ≤ N ∧ N ≤ 8 ∧ n = nI N := by
  have h0 : ¬ n < 0 := fun q => h1 (Int32.lt_trans q (by decide))
  obtain ⟨j, hj, rfl⟩ := nI_of2 (M := 8) (n := 8) rfl h0 h2
  refine ⟨j, ?_, hj, rfl⟩
  rcases Nat.eq_zero_or_pos j with q | q
  · subst q
    exact absurd (by decide) h1
  · exact q
theorem g_n8L : ∀ N, N < 9 → 1 ≤ N → ¬ jabs (nI N).toInt64 = 0 := by decide
set_option maxHeartbeats 4000000 in
set_option maxRecDepth 100000 in
theorem tX0_average (l : Launch) (hnt : l.stackTraces = false) (t : Nat) (D : va_G) (h0 h1 : Nat) (cJ : ClassId) (f : Nat → Int64) (n : Int32) : gXl l yX0_average cX0_average 5 { frames := 7, cells := 1, slots := 6, locals := 120 } t D h0 h1 cJ f [.int n] (fun z9 f9 => javerage f n = .inr (z9, f9)) (fun E9 => javerage f n = .inl E9) := by
  refine g_openXl (by decide +kernel) (Nat.le_of_ble_eq_true rfl) ?_
  intro p e s m below meth c ls A _ hAA S hr hlocks hout hE hP hK hD hl
  obtain ⟨hx, hb, hml, hown, hts⟩ := id S
  have hs : ∀ w ∈ gws, w ∈ Cond.code yX0_average cX0_average 5 (some .long) :: gws := fun w h => List.mem_cons_of_mem _ h
  have hA : ∀ q, s.heap.size ≤ q → gN s.heap.size q := fun _ h => h
  have hS : va_S (gN s.heap.size) s.heap s.heap [] := va_S.rf
  have hSw : va_S A s.heap s.heap [] := va_S.rf
  have hl : lv_has ls 5 [(0, .ref h0), (1, .int n)] := hl
  have bad : n < (1 : Int32) ∨ ¬ n ≤ (8 : Int32) → ∀ ls : Array Slot, ls.size = 5 → W p l e { frames := 7, cells := 1, slots := 6, locals := 120 } s m (Value.ref h0 :: [Value.int n]).toArray below meth c s.heap [] 0 0 (vx_MQ below (va_Ql (fun z9 f9 => javerage f n = .inr (z9, f9)) (fun f' t' => va_P D vwCl (wX h0 h1 cJ f') t'.heap ∧ va_K D vwCl [(cJ, .long)] t' ∧ va_D A (wX h0 h1 cJ f')) A) (gXC (fun E9 => javerage f n = .inl E9) s.heap.size) (Value.ref h0 :: [Value.int n]).toArray s 1 6 A) (F0 m 11 ls []) := by
    intro hbad ls hls
    refine g_throw S hs hnt (by decide +kernel) cl_X0_21 in_IllegalArgumentException gt_IAE1 gt_IAE2 gt_IAE3 hE hS hls dX0_average_11 dX0_average_14 dX0_average_15 dX0_average_18 hout hlocks (by decide) (Nat.le_of_ble_eq_true rfl) (by decide) (by decide) (fun q h => hAA q h) (by decide) (by decide) (fun t9 hF9 _ _ => ⟨(), trivial, (show javerage f n = .inl gIAE from ?_), hF9⟩)
    by_cases q : n < (1 : Int32)
    · rw [javerage, if_pos q]
    · rw [javerage, if_neg q, if_neg (hbad.resolve_left q)]
  refine lv_iload_n hx hb dX0_average_0 rfl (lv_at hl 1 rfl) ?_
  refine lv_iconst (v := 1) hx hb dX0_average_1 (by decide) ?_
  refine lv_icmp_lt (tgt := 11) hx hb dX0_average_2 (by decide) (fun c_1 => bad (Or.inl c_1) ls hl.1) (fun c_1 => ?_)
  refine lv_iload_n hx hb dX0_average_5 rfl (lv_at hl 1 rfl) ?_
  refine lv_bipush (v := 8) hx hb dX0_average_6 (by decide) ?_
  refine lv_icmp_le (tgt := 19) hx hb dX0_average_8 (by decide) (fun c_2 => ?_) (fun c_2 => bad (Or.inr c_2) ls hl.1)
  have hdef : javerage f n = jbind (javgF f n.toNatClampNeg 9 0 0) fun v => .inr (jrq v n.toInt64, f) := by rw [javerage, if_neg c_1, if_pos c_2]
  obtain ⟨N, hN1, hN8, hN⟩ := g_n8 c_1 c_2
  subst hN
  rw [nI_clamp (by omega)] at hdef
  refine lv_lconst (v := 0) hx hb dX0_average_19 (by decide) ?_
  refine lv_lstore_n (lv' := [(2, .long 0), (0, .ref h0), (1, .int (nI N))]) hx hb dX0_average_20 rfl hl (by decide) rfl (fun ls hl => ?_)
  refine lv_iconst (v := 0) hx hb dX0_average_21 (by decide) ?_
  refine lv_istore (lv' := [(4, .int 0), (2, .long 0), (0, .ref h0), (1, .int (nI N))]) hx hb dX0_average_22 hl (by decide) rfl (fun ls hl => ?_)
  have loop : ∀ (i k : Nat) (v : Int64) (ls : Array Slot), k ≤ N → N < k + i → javgF f N i k v = javgF f N 9 0 0 → lv_has ls 5 [(4, .int (nI k)), (2, .long v), (0, .ref h0), (1, .int (nI N))] →
      W p l e { frames := 7, cells := 1, slots := 6, locals := 120 } s m (Value.ref h0 :: [Value.int (nI N)]).toArray below meth c s.heap [] 0 0 (vx_MQ below (va_Ql (fun z9 f9 => javerage f (nI N) = .inr (z9, f9)) (fun f' t' => va_P D vwCl (wX h0 h1 cJ f') t'.heap ∧ va_K D vwCl [(cJ, .long)] t' ∧ va_D A (wX h0 h1 cJ f')) A) (gXC (fun E9 => javerage f (nI N) = .inl E9) s.heap.size) (Value.ref h0 :: [Value.int (nI N)]).toArray s 1 6 A) (F0 m 24 ls []) := by
    intro i
    induction i with
    | zero => intro k v ls h1 h2; omega
    | succ i ih =>
      intro k v ls hk hi heq hl
      refine lv_iload hx hb dX0_average_24 (lv_at hl 0 rfl) ?_
      refine lv_iload_n hx hb dX0_average_26 rfl (lv_at hl 3 rfl) ?_
      refine lv_icmp_ge (tgt := 49) hx hb dX0_average_27 (by decide) (fun c_3 => ?_) (fun c_3 => ?_)
      · rw [nI_leI (by omega) (by omega)] at c_3
        refine lv_lload_n hx hb dX0_average_49 rfl (lv_at hl 1 rfl) ?_
        refine lv_iload_n hx hb dX0_average_50 rfl (lv_at hl 3 rfl) ?_
        refine lv_i2l hx hb dX0_average_51 rfl ?_
        refine g_callSl S hs (tX0_roundedQuotient l t v (nI N).toInt64 (g_n8L N (by omega) hN1)) ml_X0_39 st_yX0_roundedQuotient in_X0 cd_yX0_roundedQuotient hd_yX0_roundedQuotient ⟨by decide, by decide⟩ hE hS hA hl.1 rfl (Nat.le_of_ble_eq_true rfl) ⟨by decide, by decide⟩ dX0_average_52 (fun r_1 hr_1 => ?_)
        subst hr_1
        exact vx_ret (W.widen (by decide) (by decide) (W.lret (v := jrq v (nI N).toInt64) hx hb hr (fun t9 ht9 hW9 => ⟨⟨_, f, rfl, (by rw [hdef, ← heq, javgF, if_neg (by omega), jbind_inr]), by rw [ht9]; exact hP, va_K.moved hW9.alike hK, hD⟩, hSw.F ht9⟩) hSw.2.2 dX0_average_55 hlocks))
      · rw [nI_leI (by omega) (by omega)] at c_3
        refine lv_lload_n hx hb dX0_average_30 rfl (lv_at hl 1 rfl) ?_
        refine lv_aload_n hx hb dX0_average_31 rfl (lv_at hl 2 rfl) ?_
        refine va_get (ci := 0) (v := .ref h1) (C := RX0) (T := TX0) (N := 1) hx hb hts (fun w h => hs _ (inX0g w h)) hown hK hP 0 rfl rfl 0 (by decide) (hts _ (hs _ fl_X0_9)) (fun _ h9 => h9) rfl dX0_average_32 ?_
        refine lv_iload hx hb dX0_average_35 (lv_at hl 0 rfl) ?_
        refine va_lald hx hb hK hP 1 0 rfl rfl (vp_in_nI (by omega) (by decide)) dX0_average_37 ?_
        refine lv_ladd hx hb dX0_average_38 ?_
        rw [nI_clamp (by omega)]
        refine g_callSlX S hs (tX0_limited l hnt t (v + f k)) ml_X0_28 st_yX0_limited in_X0 cd_yX0_limited hd_yX0_limited ⟨by decide, by decide⟩ hE hS hA hl.1 rfl (Nat.le_of_ble_eq_true rfl) ⟨by decide, by decide⟩ dX0_average_39 hout hlocks (fun q h => hAA q h) (by decide) (by decide) (fun E9 hx9 t9 hF9 _ _ => ⟨(), trivial, (show javerage f (nI N) = .inl E9 from by rw [hdef, ← heq, javgF, if_pos (by omega), hx9, jbind_inl, jbind_inl]), hF9⟩) (fun r_2 hr_2 => ?_)
        refine lv_lstore_n (lv' := [(2, .long r_2), (4, .int (nI k)), (0, .ref h0), (1, .int (nI N))]) hx hb dX0_average_42 rfl hl (by decide) rfl (fun ls hl => ?_)
        refine lv_iinc (lv' := [(4, .int (nI k + 1)), (2, .long r_2), (0, .ref h0), (1, .int (nI N))]) hx hb dX0_average_43 hl (k := 1) rfl rfl (by decide) rfl (fun ls hl => ?_)
        refine lv_goto (tgt := 24) hx hb dX0_average_46 (by decide) ?_
        exact ih (k + 1) r_2 ls (by omega) (by omega) (by rw [← heq, javgF, if_pos (by omega), hr_2, jbind_inr]) (by rw [← nI_1]; exact hl)
  exact loop 9 0 0 ls (by omega) (by omega) rfl hl
set_option maxHeartbeats 4000000 in
set_option maxRecDepth 100000 in
/-- the constructor: eight registers, all 0 -/
theorem tX0_init (l : Launch) (D : va_G) (h0 sz : Nat) : Met l yX0_init (Cond.code yX0_init cX0_init 1 none :: gws) ({ frames := 1, cells := 1, slots := 8, locals := 12 }) (va_Pc [.ref h0] (fun U => U.heap.size = sz ∧ va_P D vwCl [(h0, .inr (0, [.null]))] U.heap ∧ va_K D vwCl [] U ∧ va_D (fun _ => True) [(h0, .inr (0, [.null]))]))
    (va_Qv (fun _ : Unit => True) (fun _ t' => ∃ (h1 : Nat) (cJ : ClassId), va_P D vwCl (wX h0 h1 cJ (fun _ => 0)) t'.heap ∧ va_K D vwCl [(cJ, .long)] t' ∧ va_D (va_A [(h0, .inr (0, [.null]))] sz) (wX h0 h1 cJ (fun _ => 0))) (va_A [(h0, .inr (0, [.null]))] sz)) 1 8 (va_A [(h0, .inr (0, [.null]))] sz) := by
  refine Met.ofW (cc := cX0_init) (maxL := 1) (ret := none) (by decide) rfl ?_
  intro p e s m args below meth c s₁ B hml hv
  obtain ⟨rfl, hsz, hP, hK, hD0⟩ := hv
  have hx := B.exec
  have hb := B.bytes
  have hr := B.returns
  have hts := atoms_spec (ws := Cond.code yX0_init cX0_init 1 none :: gws) B.pre
  have hs : ∀ w ∈ gws, w ∈ Cond.code yX0_init cX0_init 1 none :: gws := fun w h => List.mem_cons_of_mem _ h
  have hown : s.vm.findClass RX0 = some m.cls := findClass_of_methodNamed B.named
  have hlocks := B.notSynchronized
  have hin : meth.name = "<init>" := (name_of_methodNamed B.named B.method).1
  subst hsz
  have hD := hD0.self (sz := s.heap.size)
  generalize hAe : va_A [(h0, .inr (0, [.null]))] s.heap.size = A at hD ⊢
  have hA : ∀ q : Nat, s.heap.size ≤ q → A q := fun q h => by rw [← hAe]; exact Or.inr h
  have hS : va_S A s.heap s.heap [] := va_S.rf
  have hl := lv_entry ([.ref h0]) (n := 1) (Nat.le_of_ble_eq_true rfl)
  rw [lg_entry_eq]
  generalize (lg_sl ([.ref h0]) ++ List.replicate (1 - (lg_sl ([.ref h0])).length) Slot.unset).toArray = ls at hl ⊢
  have hl : lv_has ls 1 [(0, .ref h0)] := hl
  refine lv_aload_n hx hb dX0_init_0 rfl (lv_at hl 0 rfl) ?_
  refine W.objInit hx hb hown (hts _ (hs _ ml_X0_1)) (hts _ (hs _ im_objectInit)) (hts _ (hs _ cd_objectInit)) rfl (by rw [hml]; exact hl.1) rfl dX0_init_1 (Nat.le_of_ble_eq_true rfl) (Nat.le_of_ble_eq_true rfl) ?_
  refine W.eq (g2 := F0 m 4 ls []) rfl ?_
  refine lv_aload_n hx hb dX0_init_4 rfl (lv_at hl 0 rfl) ?_
  refine lv_bipush (v := 8) hx hb dX0_init_5 (by decide) ?_
  refine va_newa (atype := .long) hx hb (hts _ (hs _ ac_long)) rfl hK hP hD hS hA (N' := 8) (a0 := (8, .inr (.inl (fun _ => 0)))) (fun cA => rfl) (by decide) (by decide) (by decide) (by decide) (by decide) dX0_init_7 (fun q cA H hK hP hD hS => ?_)
  refine va_putF (ci := 0) (v := .ref q) (ty := .array .long) (C := RX0) (T := TX0) (N := 1) hx hb hts (fun w h => hs _ (inX0g w h)) tyX0 tyX0_ok nmX0 hown hK hP hD hS 0 rfl rfl 0 (by decide) (hts _ (hs _ fl_X0_9)) (fun _ h9 => h9) rfl hin rfl (by decide +kernel) rfl rfl (Nat.le_of_ble_eq_true rfl) dX0_init_9 (fun H locs hP hD hS => ?_)
  have hP : va_P D vwCl (wX h0 q cA (fun _ => 0)) H := hP
  have hD : va_D A (wX h0 q cA (fun _ => 0)) := hD
  exact W.vret hx hb hr (fun t ht hW => ⟨⟨(), rfl, trivial, q, cA, by rw [ht]; exact hP, va_K.moved hW.alike hK, hD⟩, hS.F ht⟩) hS.2.2 dX0_init_12
