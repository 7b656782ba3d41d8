def kout (r : Int32) : Int32 :=
  if r < (0 : Int32) then
    (1 : Int32)
  else if r ≤ (7 : Int32) then
    (0 : Int32)
  else (1 : Int32)
set_option maxHeartbeats 4000000 in
set_option maxRecDepth 100000 in
theorem tX1_out (l : Launch) (b0 : Nat) (r : Int32) : gPi l yX1_out cX1_out 2 .boolean { frames := 0, cells := 0, slots := 0, locals := 0 } b0 [.int r] (fun z9 => z9 = kout r) := by
  refine g_openPi (by decide +kernel) (Nat.le_of_ble_eq_true rfl) ?_
  intro p e s m below meth c ls S hr hlocks hl
  obtain ⟨hx, hb, hml, hown, hts⟩ := id S
  have hs : ∀ w ∈ gws, w ∈ Cond.code yX1_out cX1_out 2 (some .boolean) :: gws := fun w h => List.mem_cons_of_mem _ h
  have hl : lv_has ls 2 [(0, .ref b0), (1, .int r)] := hl
  refine lv_iload_n hx hb dX1_out_0 rfl (lv_at hl 1 rfl) ?_
  refine lv_if_lt (tgt := 10) hx hb dX1_out_1 (by decide) (fun c_1 => ?_) (fun c_1 => ?_)
  · refine lv_iconst (v := 1) hx hb dX1_out_10 (by decide) ?_
    refine lv_goto (tgt := 15) hx hb dX1_out_11 (by decide) ?_
    exact g_zret hx hb hr (by decide) hlocks (by rw [kout, if_pos c_1]) dX1_out_15
  · refine lv_iload_n hx hb dX1_out_4 rfl (lv_at hl 1 rfl) ?_
    refine lv_bipush (v := 7) hx hb dX1_out_5 (by decide) ?_
    refine lv_icmp_le (tgt := 14) hx hb dX1_out_7 (by decide) (fun c_2 => ?_) (fun c_2 => ?_)
    · refine lv_iconst (v := 0) hx hb dX1_out_14 (by decide) ?_
      exact g_zret hx hb hr (by decide) hlocks (by rw [kout, if_neg c_1, if_pos c_2]) dX1_out_15
    · refine lv_iconst (v := 1) hx hb dX1_out_10 (by decide) ?_
      refine lv_goto (tgt := 15) hx hb dX1_out_11 (by decide) ?_
      exact g_zret hx hb hr (by decide) hlocks (by rw [kout, if_neg c_1, if_neg c_2]) dX1_out_15
theorem g_pos_ne {x : Int64} (h : ¬ x ≤ (0 : Int64)) : ¬ x = 0 := fun e => h (by rw [e]; decide)
def kproduct (x : Int64) (y : Int64) : Int64 :=
  if (x / (10000 : Int64)) ≤ (0 : Int64) then
    ((x / (10000 : Int64)) * y) + ((((x - x / (10000 : Int64) * (10000 : Int64)) * y) + (5000 : Int64)) / (10000 : Int64))
  else if y ≤ ((900000000000000 : Int64) / (x / (10000 : Int64))) then
    ((x / (10000 : Int64)) * y) + ((((x - x / (10000 : Int64) * (10000 : Int64)) * y) + (5000 : Int64)) / (10000 : Int64))
  else (900000000000001 : Int64)
set_option maxHeartbeats 4000000 in
set_option maxRecDepth 100000 in
theorem tX1_product (l : Launch) (b0 : Nat) (x : Int64) (y : Int64) : gPl l yX1_product cX1_product 7 { frames := 0, cells := 0, slots := 0, locals := 0 } b0 [.long x, .long y] (fun z9 => z9 = kproduct x y) := by
  refine g_openPl (by decide +kernel) (Nat.le_of_ble_eq_true rfl) ?_
  intro p e s m below meth c ls S hr hlocks hl
  obtain ⟨hx, hb, hml, hown, hts⟩ := id S
  have hs : ∀ w ∈ gws, w ∈ Cond.code yX1_product cX1_product 7 (some .long) :: gws := fun w h => List.mem_cons_of_mem _ h
  have hl : lv_has ls 7 [(0, .ref b0), (1, .long x), (3, .long y)] := hl
  refine lv_lload_n hx hb dX1_product_0 rfl (lv_at hl 1 rfl) ?_
  refine lv_ldc2 hx hb hown (hts _ (hs _ kl_X1_33)) dX1_product_1 ?_
  refine lv_ldiv hx hb dX1_product_4 (by decide) ?_
  refine lv_lstore (lv' := [(5, .long (x / (10000 : Int64))), (0, .ref b0), (1, .long x), (3, .long y)]) hx hb dX1_product_5 hl (by decide) rfl (fun ls hl => ?_)
  refine lv_lload hx hb dX1_product_7 (lv_at hl 0 rfl) ?_
  refine lv_lconst (v := 0) hx hb dX1_product_9 (by decide) ?_
  refine g_lc_le (tgt := 29) hx hb dX1_product_10 dX1_product_11 (by decide) (fun c_1 => ?_) (fun c_1 => ?_)
  · refine lv_lload hx hb dX1_product_29 (lv_at hl 0 rfl) ?_
    refine lv_lload_n hx hb dX1_product_31 rfl (lv_at hl 3 rfl) ?_
    refine lv_lmul hx hb dX1_product_32 ?_
    refine lv_lload_n hx hb dX1_product_33 rfl (lv_at hl 2 rfl) ?_
    refine lv_ldc2 hx hb hown (hts _ (hs _ kl_X1_33)) dX1_product_34 ?_
    refine lv_lrem hx hb dX1_product_37 (by decide) ?_
    refine lv_lload_n hx hb dX1_product_38 rfl (lv_at hl 3 rfl) ?_
    refine lv_lmul hx hb dX1_product_39 ?_
    refine lv_ldc2 hx hb hown (hts _ (hs _ kl_X1_37)) dX1_product_40 ?_
    refine lv_ladd hx hb dX1_product_43 ?_
    refine lv_ldc2 hx hb hown (hts _ (hs _ kl_X1_33)) dX1_product_44 ?_
    refine lv_ldiv hx hb dX1_product_47 (by decide) ?_
    refine lv_ladd hx hb dX1_product_48 ?_
    exact g_lret hx hb hr hlocks (by rw [kproduct, if_pos c_1]) dX1_product_49
  · refine lv_lload_n hx hb dX1_product_14 rfl (lv_at hl 3 rfl) ?_
    refine lv_ldc2 hx hb hown (hts _ (hs _ kl_X1_27)) dX1_product_15 ?_
    refine lv_lload hx hb dX1_product_18 (lv_at hl 0 rfl) ?_
    refine lv_ldiv hx hb dX1_product_20 (g_pos_ne c_1) ?_
    refine g_lc_le (tgt := 29) hx hb dX1_product_21 dX1_product_22 (by decide) (fun c_2 => ?_) (fun c_2 => ?_)
    · refine lv_lload hx hb dX1_product_29 (lv_at hl 0 rfl) ?_
      refine lv_lload_n hx hb dX1_product_31 rfl (lv_at hl 3 rfl) ?_
      refine lv_lmul hx hb dX1_product_32 ?_
      refine lv_lload_n hx hb dX1_product_33 rfl (lv_at hl 2 rfl) ?_
      refine lv_ldc2 hx hb hown (hts _ (hs _ kl_X1_33)) dX1_product_34 ?_
      refine lv_lrem hx hb dX1_product_37 (by decide) ?_
      refine lv_lload_n hx hb dX1_product_38 rfl (lv_at hl 3 rfl) ?_
      refine lv_lmul hx hb dX1_product_39 ?_
      refine lv_ldc2 hx hb hown (hts _ (hs _ kl_X1_37)) dX1_product_40 ?_
      refine lv_ladd hx hb dX1_product_43 ?_
      refine lv_ldc2 hx hb hown (hts _ (hs _ kl_X1_33)) dX1_product_44 ?_
      refine lv_ldiv hx hb dX1_product_47 (by decide) ?_
      refine lv_ladd hx hb dX1_product_48 ?_
      exact g_lret hx hb hr hlocks (by rw [kproduct, if_neg c_1, if_pos c_2]) dX1_product_49
    · refine lv_ldc2 hx hb hown (hts _ (hs _ kl_X1_35)) dX1_product_25 ?_
      exact g_lret hx hb hr hlocks (by rw [kproduct, if_neg c_1, if_neg c_2]) dX1_product_28
def kquotient (x : Int64) (y : Int64) : Int64 :=
  if (((10000 : Int64) * x) - ((10000 : Int64) * x) / y * y) < (y - (((10000 : Int64) * x) - ((10000 : Int64) * x) / y * y)) then
    ((10000 : Int64) * x) / y
  else (((10000 : Int64) * x) / y) + (1 : Int64)
set_option maxHeartbeats 4000000 in
set_option maxRecDepth 100000 in
theorem tX1_quotient (l : Launch) (b0 : Nat) (x : Int64) (y : Int64) (hy : ¬ y = 0) : gPl l yX1_quotient cX1_quotient 9 { frames := 0, cells := 0, slots := 0, locals := 0 } b0 [.long x, .long y] (fun z9 => z9 = kquotient x y) := by
  refine g_openPl (by decide +kernel) (Nat.le_of_ble_eq_true rfl) ?_
  intro p e s m below meth c ls S hr hlocks hl
  obtain ⟨hx, hb, hml, hown, hts⟩ := id S
  have hs : ∀ w ∈ gws, w ∈ Cond.code yX1_quotient cX1_quotient 9 (some .long) :: gws := fun w h => List.mem_cons_of_mem _ h
  have hl : lv_has ls 9 [(0, .ref b0), (1, .long x), (3, .long y)] := hl
  refine lv_ldc2 hx hb hown (hts _ (hs _ kl_X1_33)) dX1_quotient_0 ?_
  refine lv_lload_n hx hb dX1_quotient_3 rfl (lv_at hl 1 rfl) ?_
  refine lv_lmul hx hb dX1_quotient_4 ?_
  refine lv_lload_n hx hb dX1_quotient_5 rfl (lv_at hl 2 rfl) ?_
  refine lv_ldiv hx hb dX1_quotient_6 (hy) ?_
  refine lv_lstore (lv' := [(5, .long (((10000 : Int64) * x) / y)), (0, .ref b0), (1, .long x), (3, .long y)]) hx hb dX1_quotient_7 hl (by decide) rfl (fun ls hl => ?_)
  refine lv_ldc2 hx hb hown (hts _ (hs _ kl_X1_33)) dX1_quotient_9 ?_
  refine lv_lload_n hx hb dX1_quotient_12 rfl (lv_at hl 2 rfl) ?_
  refine lv_lmul hx hb dX1_quotient_13 ?_
  refine lv_lload_n hx hb dX1_quotient_14 rfl (lv_at hl 3 rfl) ?_
  refine lv_lrem hx hb dX1_quotient_15 (hy) ?_
  refine lv_lstore (lv' := [(7, .long (((10000 : Int64) * x) - ((10000 : Int64) * x) / y * y)), (5, .long (((10000 : Int64) * x) / y)), (0, .ref b0), (1, .long x), (3, .long y)]) hx hb dX1_quotient_16 hl (by decide) rfl (fun ls hl => ?_)
  refine lv_lload hx hb dX1_quotient_18 (lv_at hl 0 rfl) ?_
  refine lv_lload_n hx hb dX1_quotient_20 rfl (lv_at hl 4 rfl) ?_
  refine lv_lload hx hb dX1_quotient_21 (lv_at hl 0 rfl) ?_
  refine lv_lsub hx hb dX1_quotient_23 ?_
  refine g_lc_lt (tgt := 35) hx hb dX1_quotient_24 dX1_quotient_25 (by decide) (fun c_1 => ?_) (fun c_1 => ?_)
  · refine lv_lload hx hb dX1_quotient_35 (lv_at hl 1 rfl) ?_
    exact g_lret hx hb hr hlocks (by rw [kquotient, if_pos c_1]) dX1_quotient_37
  · refine lv_lload hx hb dX1_quotient_28 (lv_at hl 1 rfl) ?_
    refine lv_lconst (v := 1) hx hb dX1_quotient_30 (by decide) ?_
    refine lv_ladd hx hb dX1_quotient_31 ?_
    refine lv_goto (tgt := 37) hx hb dX1_quotient_32 (by decide) ?_
    exact g_lret hx hb hr hlocks (by rw [kquotient, if_neg c_1]) dX1_quotient_37
theorem out_in {r : Int32} (h : kout r = 0) : vp_in r 8 := by
  unfold kout at h
  split at h
  · exact absurd h (by decide)
  · split at h
    next h1 h2 =>
      obtain ⟨j, hj, rfl⟩ := nI_of2 (M := 7) (n := 7) rfl h1 h2
      exact vp_in_nI (by omega) (by decide)
    · exact absurd h (by decide)
theorem ksize_ne {x : Int64} (h : ¬ x = 0) : ¬ jX1_size x = 0 := by
  unfold jX1_size
  split
  · exact h
  · intro q
    apply h
    have e : x = -(-x) := by simp
    rw [e, q]
    rfl
def kthrown (u : mS)  : Int32 × mS :=
  (u.1, u)
set_option maxHeartbeats 4000000 in
set_option maxRecDepth 100000 in
theorem tX1_thrown (l : Launch) (t : Nat) (D : va_G) (m0 m1 m2 : Nat) (cJ cI : ClassId) (u : mS)  : gMi l yX1_thrown cX1_thrown 1 { frames := 0, cells := 0, slots := 0, locals := 0 } t D m0 m1 m2 cJ cI u [] (fun z9 u9 => z9 = (kthrown u).1 ∧ u9 = (kthrown u).2) := by
  refine g_openMi (by decide +kernel) (Nat.le_of_ble_eq_true rfl) ?_
  intro p e s m below meth c ls A hA S hr hlocks hE hP hK hD hl
  obtain ⟨hx, hb, hml, hown, hts⟩ := id S
  have hs : ∀ w ∈ gws, w ∈ Cond.code yX1_thrown cX1_thrown 1 (some .int) :: gws := fun w h => List.mem_cons_of_mem _ h
  have hS : va_S A s.heap s.heap [] := va_S.rf
  have hl : lv_has ls 1 [(0, .ref m0)] := hl
  refine lv_aload_n hx hb dX1_thrown_0 rfl (lv_at hl 0 rfl) ?_
  refine va_get (ci := 1) (v := .int u.1) (C := RX1) (T := TX1) (N := 3) hx hb hts (fun w h => hs _ (inX1g w h)) hown hK hP 0 rfl rfl 0 (by decide) (hts _ (hs _ fl_X1_17)) (fun _ h9 => h9) rfl dX1_thrown_1 ?_
  exact W.iret (v := u.1) hx hb hr (fun t9 ht9 hW9 => ⟨⟨u.1, u, rfl, (⟨by rw [kthrown], by rw [kthrown]⟩), by rw [ht9]; exact hP, va_K.moved hW9.alike hK, hD⟩, hS.F ht9⟩) hS.2.2 dX1_thrown_4 hlocks
def kfail (u : mS) (code : Int32) : Int32 × mS :=
  ((0 : Int32), (code, u.2.1, u.2.2))
set_option maxHeartbeats 4000000 in
set_option maxRecDepth 100000 in
theorem tX1_fail (l : Launch) (t : Nat) (D : va_G) (m0 m1 m2 : Nat) (cJ cI : ClassId) (u : mS) (code : Int32) : gMi l yX1_fail cX1_fail 2 { frames := 0, cells := 0, slots := 0, locals := 0 } t D m0 m1 m2 cJ cI u [.int code] (fun z9 u9 => z9 = (kfail u code).1 ∧ u9 = (kfail u code).2) := by
  refine g_openMi (by decide +kernel) (Nat.le_of_ble_eq_true rfl) ?_
  intro p e s m below meth c ls A hA S hr hlocks hE hP hK hD hl
  obtain ⟨hx, hb, hml, hown, hts⟩ := id S
  have hs : ∀ w ∈ gws, w ∈ Cond.code yX1_fail cX1_fail 2 (some .int) :: gws := fun w h => List.mem_cons_of_mem _ h
  have hS : va_S A s.heap s.heap [] := va_S.rf
  have hl : lv_has ls 2 [(0, .ref m0), (1, .int code)] := hl
  refine lv_aload_n hx hb dX1_fail_0 rfl (lv_at hl 0 rfl) ?_
  refine lv_iload_n hx hb dX1_fail_1 rfl (lv_at hl 1 rfl) ?_
  refine va_put (ci := 1) (v := .int code) (ty := .int) (C := RX1) (T := TX1) (N := 3) hx hb hts (fun w h => hs _ (inX1g w h)) tyX1 tyX1_ok nmX1 hown hK hP hD hS 0 rfl rfl 0 (by decide) (hts _ (hs _ fl_X1_17)) (fun _ h9 => h9) rfl (by decide +kernel) rfl rfl (Nat.le_of_ble_eq_true rfl) dX1_fail_2 (fun H locs hP hD hS => ?_)
  have hP : va_P D vwCl (wM m0 m1 m2 cJ cI (code, u.2.1, u.2.2)) H := hP
  have hD : va_D A (wM m0 m1 m2 cJ cI (code, u.2.1, u.2.2)) := hD
  refine lv_iconst (v := 0) hx hb dX1_fail_5 (by decide) ?_
  exact W.iret (v := (0 : Int32)) hx hb hr (fun t9 ht9 hW9 => ⟨⟨(0 : Int32), (code, u.2.1, u.2.2), rfl, (⟨by rw [kfail], by rw [kfail]⟩), by rw [ht9]; exact hP, va_K.moved hW9.alike hK, hD⟩, hS.F ht9⟩) hS.2.2 dX1_fail_6 hlocks
def kput (u : mS) (r : Int32) (mi : Int32) (v : Int64) (code : Int32) : Int64 × mS :=
  if v ≤ (900000000000000 : Int64) then
    if mi = (0 : Int32) then
      ((vp_updL u.2.1 r.toNatClampNeg v) r.toNatClampNeg, (u.1, (vp_updL u.2.1 r.toNatClampNeg v), u.2.2))
    else ((vp_updL u.2.1 r.toNatClampNeg (-v)) r.toNatClampNeg, (u.1, (vp_updL u.2.1 r.toNatClampNeg (-v)), u.2.2))
  else (((kfail u code).1).toInt64, (kfail u code).2)
set_option maxHeartbeats 4000000 in
set_option maxRecDepth 100000 in
theorem tX1_put (l : Launch) (t : Nat) (D : va_G) (m0 m1 m2 : Nat) (cJ cI : ClassId) (u : mS) (r : Int32) (mi : Int32) (v : Int64) (code : Int32) (hr8 : vp_in r 8) : gMl l yX1_put cX1_put 6 { frames := 1, cells := 0, slots := 0, locals := 30 } t D m0 m1 m2 cJ cI u [.int r, .int mi, .long v, .int code] (fun z9 u9 => z9 = (kput u r mi v code).1 ∧ u9 = (kput u r mi v code).2) := by
  refine g_openMl (by decide +kernel) (Nat.le_of_ble_eq_true rfl) ?_
  intro p e s m below meth c ls A hA S hr hlocks hE hP hK hD hl
  obtain ⟨hx, hb, hml, hown, hts⟩ := id S
  have hs : ∀ w ∈ gws, w ∈ Cond.code yX1_put cX1_put 6 (some .long) :: gws := fun w h => List.mem_cons_of_mem _ h
  have hS : va_S A s.heap s.heap [] := va_S.rf
  have hl : lv_has ls 6 [(0, .ref m0), (1, .int r), (2, .int mi), (3, .long v), (5, .int code)] := hl
  refine lv_lload_n hx hb dX1_put_0 rfl (lv_at hl 3 rfl) ?_
  refine lv_ldc2 hx hb hown (hts _ (hs _ kl_X1_27)) dX1_put_1 ?_
  refine g_lc_le (tgt := 16) hx hb dX1_put_4 dX1_put_5 (by decide) (fun c_1 => ?_) (fun c_1 => ?_)
  · refine lv_aload_n hx hb dX1_put_16 rfl (lv_at hl 0 rfl) ?_
    refine va_get (ci := 1) (v := .ref m1) (C := RX1) (T := TX1) (N := 3) hx hb hts (fun w h => hs _ (inX1g w h)) hown hK hP 0 rfl rfl 1 (by decide) (hts _ (hs _ fl_X1_7)) (fun _ h9 => h9) rfl dX1_put_17 ?_
    refine lv_iload_n hx hb dX1_put_20 rfl (lv_at hl 1 rfl) ?_
    refine lv_iload_n hx hb dX1_put_21 rfl (lv_at hl 2 rfl) ?_
    refine lv_if_eq (tgt := 30) hx hb dX1_put_22 (by decide) (fun c_2 => ?_) (fun c_2 => ?_)
    · refine lv_lload_n hx hb dX1_put_30 rfl (lv_at hl 3 rfl) ?_
      refine va_last hx hb hK hP hD hS 1 0 rfl rfl (hr8) dX1_put_31 (fun H locs hP hD hS => ?_)
      have hP : va_P D vwCl (wM m0 m1 m2 cJ cI (u.1, (vp_updL u.2.1 r.toNatClampNeg v), u.2.2)) H := hP
      have hD : va_D A (wM m0 m1 m2 cJ cI (u.1, (vp_updL u.2.1 r.toNatClampNeg v), u.2.2)) := hD
      refine lv_aload_n hx hb dX1_put_32 rfl (lv_at hl 0 rfl) ?_
      refine va_get (ci := 1) (v := .ref m1) (C := RX1) (T := TX1) (N := 3) hx hb hts (fun w h => hs _ (inX1g w h)) hown hK hP 0 rfl rfl 1 (by decide) (hts _ (hs _ fl_X1_7)) (fun _ h9 => h9) rfl dX1_put_33 ?_
      refine lv_iload_n hx hb dX1_put_36 rfl (lv_at hl 1 rfl) ?_
      refine va_lald hx hb hK hP 1 0 rfl rfl (hr8) dX1_put_37 ?_
      exact W.lret (v := (vp_updL u.2.1 r.toNatClampNeg v) r.toNatClampNeg) hx hb hr (fun t9 ht9 hW9 => ⟨⟨(vp_updL u.2.1 r.toNatClampNeg v) r.toNatClampNeg, (u.1, (vp_updL u.2.1 r.toNatClampNeg v), u.2.2), rfl, (⟨by rw [kput, if_pos c_1, if_pos c_2], by rw [kput, if_pos c_1, if_pos c_2]⟩), by rw [ht9]; exact hP, va_K.moved hW9.alike hK, hD⟩, hS.F ht9⟩) hS.2.2 dX1_put_38 hlocks
    · refine lv_lload_n hx hb dX1_put_25 rfl (lv_at hl 3 rfl) ?_
      refine lv_lneg hx hb dX1_put_26 ?_
      refine lv_goto (tgt := 31) hx hb dX1_put_27 (by decide) ?_
      refine va_last hx hb hK hP hD hS 1 0 rfl rfl (hr8) dX1_put_31 (fun H locs hP hD hS => ?_)
      have hP : va_P D vwCl (wM m0 m1 m2 cJ cI (u.1, (vp_updL u.2.1 r.toNatClampNeg (-v)), u.2.2)) H := hP
      have hD : va_D A (wM m0 m1 m2 cJ cI (u.1, (vp_updL u.2.1 r.toNatClampNeg (-v)), u.2.2)) := hD
      refine lv_aload_n hx hb dX1_put_32 rfl (lv_at hl 0 rfl) ?_
      refine va_get (ci := 1) (v := .ref m1) (C := RX1) (T := TX1) (N := 3) hx hb hts (fun w h => hs _ (inX1g w h)) hown hK hP 0 rfl rfl 1 (by decide) (hts _ (hs _ fl_X1_7)) (fun _ h9 => h9) rfl dX1_put_33 ?_
      refine lv_iload_n hx hb dX1_put_36 rfl (lv_at hl 1 rfl) ?_
      refine va_lald hx hb hK hP 1 0 rfl rfl (hr8) dX1_put_37 ?_
      exact W.lret (v := (vp_updL u.2.1 r.toNatClampNeg (-v)) r.toNatClampNeg) hx hb hr (fun t9 ht9 hW9 => ⟨⟨(vp_updL u.2.1 r.toNatClampNeg (-v)) r.toNatClampNeg, (u.1, (vp_updL u.2.1 r.toNatClampNeg (-v)), u.2.2), rfl, (⟨by rw [kput, if_pos c_1, if_neg c_2], by rw [kput, if_pos c_1, if_neg c_2]⟩), by rw [ht9]; exact hP, va_K.moved hW9.alike hK, hD⟩, hS.F ht9⟩) hS.2.2 dX1_put_38 hlocks
  · refine lv_aload_n hx hb dX1_put_8 rfl (lv_at hl 0 rfl) ?_
    refine lv_iload hx hb dX1_put_9 (lv_at hl 4 rfl) ?_
    refine g_callMi S hs (tX1_fail l t D m0 m1 m2 cJ cI u code) rfl ml_X1_29 im_yX1_fail se_yX1_fail cd_yX1_fail hd_yX1_fail ⟨by decide, by decide⟩ hE hS hA hP hK hD hl.1 rfl (Nat.le_of_ble_eq_true rfl) ⟨by decide, by decide⟩ dX1_put_11 (fun r_3 u_3 H locs hr_3 hP hD hS => ?_)
    obtain ⟨rfl, rfl⟩ := hr_3
    refine lv_i2l hx hb dX1_put_14 rfl ?_
    exact W.lret (v := ((kfail u code).1).toInt64) hx hb hr (fun t9 ht9 hW9 => ⟨⟨((kfail u code).1).toInt64, (kfail u code).2, rfl, (⟨by rw [kput, if_neg c_1], by rw [kput, if_neg c_1]⟩), by rw [ht9]; exact hP, va_K.moved hW9.alike hK, hD⟩, hS.F ht9⟩) hS.2.2 dX1_put_15 hlocks
def kset (u : mS) (r : Int32) (n : Int64) : Int64 × mS :=
  if (kout r) = (0 : Int32) then
    if n < (-900000000000000 : Int64) then
      (((kfail ((0 : Int32), u.2.1, u.2.2) (1 : Int32)).1).toInt64, (kfail ((0 : Int32), u.2.1, u.2.2) (1 : Int32)).2)
    else if n ≤ (900000000000000 : Int64) then
      (u.2.1 r.toNatClampNeg, ((0 : Int32), (vp_updL u.2.1 r.toNatClampNeg n), u.2.2))
    else (((kfail ((0 : Int32), u.2.1, u.2.2) (1 : Int32)).1).toInt64, (kfail ((0 : Int32), u.2.1, u.2.2) (1 : Int32)).2)
  else (((kfail ((0 : Int32), u.2.1, u.2.2) (1 : Int32)).1).toInt64, (kfail ((0 : Int32), u.2.1, u.2.2) (1 : Int32)).2)
set_option maxHeartbeats 4000000 in
set_option maxRecDepth 100000 in
theorem tX1_set (l : Launch) (t : Nat) (D : va_G) (m0 m1 m2 : Nat) (cJ cI : ClassId) (u : mS) (r : Int32) (n : Int64) : gMl l yX1_set cX1_set 6 { frames := 2, cells := 0, slots := 0, locals := 60 } t D m0 m1 m2 cJ cI u [.int r, .long n] (fun z9 u9 => z9 = (kset u r n).1 ∧ u9 = (kset u r n).2) := by
  refine g_openMl (by decide +kernel) (Nat.le_of_ble_eq_true rfl) ?_
  intro p e s m below meth c ls A hA S hr hlocks hE hP hK hD hl
  obtain ⟨hx, hb, hml, hown, hts⟩ := id S
  have hs : ∀ w ∈ gws, w ∈ Cond.code yX1_set cX1_set 6 (some .long) :: gws := fun w h => List.mem_cons_of_mem _ h
  have hS : va_S A s.heap s.heap [] := va_S.rf
  have hl : lv_has ls 6 [(0, .ref m0), (1, .int r), (2, .long n)] := hl
  refine lv_aload_n hx hb dX1_set_0 rfl (lv_at hl 0 rfl) ?_
  refine lv_iconst (v := 0) hx hb dX1_set_1 (by decide) ?_
  refine va_put (ci := 1) (v := .int (0 : Int32)) (ty := .int) (C := RX1) (T := TX1) (N := 3) hx hb hts (fun w h => hs _ (inX1g w h)) tyX1 tyX1_ok nmX1 hown hK hP hD hS 0 rfl rfl 0 (by decide) (hts _ (hs _ fl_X1_17)) (fun _ h9 => h9) rfl (by decide +kernel) rfl rfl (Nat.le_of_ble_eq_true rfl) dX1_set_2 (fun H locs hP hD hS => ?_)
  have hP : va_P D vwCl (wM m0 m1 m2 cJ cI ((0 : Int32), u.2.1, u.2.2)) H := hP
  have hD : va_D A (wM m0 m1 m2 cJ cI ((0 : Int32), u.2.1, u.2.2)) := hD
  refine lv_aload_n hx hb dX1_set_5 rfl (lv_at hl 0 rfl) ?_
  refine lv_iload_n hx hb dX1_set_6 rfl (lv_at hl 1 rfl) ?_
  refine g_callPi S hs (tX1_out l m0 r) (va_recv hK hP (ci := 1) (q0 := 0) rfl rfl) ml_X1_21 im_yX1_out se_yX1_out in_X1 cd_yX1_out hd_yX1_out ⟨by decide, by decide⟩ hl.1 rfl (Nat.le_of_ble_eq_true rfl) ⟨by decide, by decide⟩ dX1_set_7 (fun r_1 hr_1 => ?_)
  subst hr_1
  refine lv_if_ne (tgt := 29) hx hb dX1_set_10 (by decide) (fun c_2 => ?_) (fun c_2 => ?_)
  · refine lv_aload_n hx hb dX1_set_29 rfl (lv_at hl 0 rfl) ?_
    refine lv_iconst (v := 1) hx hb dX1_set_30 (by decide) ?_
    refine g_callMi S hs (tX1_fail l t D m0 m1 m2 cJ cI ((0 : Int32), u.2.1, u.2.2) (1 : Int32)) rfl ml_X1_29 im_yX1_fail se_yX1_fail cd_yX1_fail hd_yX1_fail ⟨by decide, by decide⟩ hE hS hA hP hK hD hl.1 rfl (Nat.le_of_ble_eq_true rfl) ⟨by decide, by decide⟩ dX1_set_31 (fun r_3 u_3 H locs hr_3 hP hD hS => ?_)
    obtain ⟨rfl, rfl⟩ := hr_3
    refine lv_i2l hx hb dX1_set_34 rfl ?_
    exact W.lret (v := ((kfail ((0 : Int32), u.2.1, u.2.2) (1 : Int32)).1).toInt64) hx hb hr (fun t9 ht9 hW9 => ⟨⟨((kfail ((0 : Int32), u.2.1, u.2.2) (1 : Int32)).1).toInt64, (kfail ((0 : Int32), u.2.1, u.2.2) (1 : Int32)).2, rfl, (⟨by rw [kset, if_neg c_2], by rw [kset, if_neg c_2]⟩), by rw [ht9]; exact hP, va_K.moved hW9.alike hK, hD⟩, hS.F ht9⟩) hS.2.2 dX1_set_35 hlocks
  · refine lv_lload_n hx hb dX1_set_13 rfl (lv_at hl 2 rfl) ?_
    refine lv_ldc2 hx hb hown (hts _ (hs _ kl_X1_25)) dX1_set_14 ?_
    refine g_lc_lt (tgt := 29) hx hb dX1_set_17 dX1_set_18 (by decide) (fun c_4 => ?_) (fun c_4 => ?_)
    · refine lv_aload_n hx hb dX1_set_29 rfl (lv_at hl 0 rfl) ?_
      refine lv_iconst (v := 1) hx hb dX1_set_30 (by decide) ?_
      refine g_callMi S hs (tX1_fail l t D m0 m1 m2 cJ cI ((0 : Int32), u.2.1, u.2.2) (1 : Int32)) rfl ml_X1_29 im_yX1_fail se_yX1_fail cd_yX1_fail hd_yX1_fail ⟨by decide, by decide⟩ hE hS hA hP hK hD hl.1 rfl (Nat.le_of_ble_eq_true rfl) ⟨by decide, by decide⟩ dX1_set_31 (fun r_5 u_5 H locs hr_5 hP hD hS => ?_)
      obtain ⟨rfl, rfl⟩ := hr_5
      refine lv_i2l hx hb dX1_set_34 rfl ?_
      exact W.lret (v := ((kfail ((0 : Int32), u.2.1, u.2.2) (1 : Int32)).1).toInt64) hx hb hr (fun t9 ht9 hW9 => ⟨⟨((kfail ((0 : Int32), u.2.1, u.2.2) (1 : Int32)).1).toInt64, (kfail ((0 : Int32), u.2.1, u.2.2) (1 : Int32)).2, rfl, (⟨by rw [kset, if_pos c_2, if_pos c_4], by rw [kset, if_pos c_2, if_pos c_4]⟩), by rw [ht9]; exact hP, va_K.moved hW9.alike hK, hD⟩, hS.F ht9⟩) hS.2.2 dX1_set_35 hlocks
    · refine lv_lload_n hx hb dX1_set_21 rfl (lv_at hl 2 rfl) ?_
      refine lv_ldc2 hx hb hown (hts _ (hs _ kl_X1_27)) dX1_set_22 ?_
      refine g_lc_le (tgt := 36) hx hb dX1_set_25 dX1_set_26 (by decide) (fun c_6 => ?_) (fun c_6 => ?_)
      · refine lv_aload_n hx hb dX1_set_36 rfl (lv_at hl 0 rfl) ?_
        refine va_get (ci := 1) (v := .ref m1) (C := RX1) (T := TX1) (N := 3) hx hb hts (fun w h => hs _ (inX1g w h)) hown hK hP 0 rfl rfl 1 (by decide) (hts _ (hs _ fl_X1_7)) (fun _ h9 => h9) rfl dX1_set_37 ?_
        refine lv_iload_n hx hb dX1_set_40 rfl (lv_at hl 1 rfl) ?_
        refine va_lald hx hb hK hP 1 0 rfl rfl (out_in c_2) dX1_set_41 ?_
        refine lv_lstore (lv' := [(4, .long (u.2.1 r.toNatClampNeg)), (0, .ref m0), (1, .int r), (2, .long n)]) hx hb dX1_set_42 hl (by decide) rfl (fun ls hl => ?_)
        refine lv_aload_n hx hb dX1_set_44 rfl (lv_at hl 1 rfl) ?_
        refine va_get (ci := 1) (v := .ref m1) (C := RX1) (T := TX1) (N := 3) hx hb hts (fun w h => hs _ (inX1g w h)) hown hK hP 0 rfl rfl 1 (by decide) (hts _ (hs _ fl_X1_7)) (fun _ h9 => h9) rfl dX1_set_45 ?_
        refine lv_iload_n hx hb dX1_set_48 rfl (lv_at hl 2 rfl) ?_
        refine lv_lload_n hx hb dX1_set_49 rfl (lv_at hl 3 rfl) ?_
        refine va_last hx hb hK hP hD hS 1 0 rfl rfl (out_in c_2) dX1_set_50 (fun H locs hP hD hS => ?_)
        have hP : va_P D vwCl (wM m0 m1 m2 cJ cI ((0 : Int32), (vp_updL u.2.1 r.toNatClampNeg n), u.2.2)) H := hP
        have hD : va_D A (wM m0 m1 m2 cJ cI ((0 : Int32), (vp_updL u.2.1 r.toNatClampNeg n), u.2.2)) := hD
        refine lv_lload hx hb dX1_set_51 (lv_at hl 0 rfl) ?_
        exact W.lret (v := u.2.1 r.toNatClampNeg) hx hb hr (fun t9 ht9 hW9 => ⟨⟨u.2.1 r.toNatClampNeg, ((0 : Int32), (vp_updL u.2.1 r.toNatClampNeg n), u.2.2), rfl, (⟨by rw [kset, if_pos c_2, if_neg c_4, if_pos c_6], by rw [kset, if_pos c_2, if_neg c_4, if_pos c_6]⟩), by rw [ht9]; exact hP, va_K.moved hW9.alike hK, hD⟩, hS.F ht9⟩) hS.2.2 dX1_set_53 hlocks
      · refine lv_aload_n hx hb dX1_set_29 rfl (lv_at hl 0 rfl) ?_
        refine lv_iconst (v := 1) hx hb dX1_set_30 (by decide) ?_
        refine g_callMi S hs (tX1_fail l t D m0 m1 m2 cJ cI ((0 : Int32), u.2.1, u.2.2) (1 : Int32)) rfl ml_X1_29 im_yX1_fail se_yX1_fail cd_yX1_fail hd_yX1_fail ⟨by decide, by decide⟩ hE hS hA hP hK hD hl.1 rfl (Nat.le_of_ble_eq_true rfl) ⟨by decide, by decide⟩ dX1_set_31 (fun r_7 u_7 H locs hr_7 hP hD hS => ?_)
        obtain ⟨rfl, rfl⟩ := hr_7
        refine lv_i2l hx hb dX1_set_34 rfl ?_
        exact W.lret (v := ((kfail ((0 : Int32), u.2.1, u.2.2) (1 : Int32)).1).toInt64) hx hb hr (fun t9 ht9 hW9 => ⟨⟨((kfail ((0 : Int32), u.2.1, u.2.2) (1 : Int32)).1).toInt64, (kfail ((0 : Int32), u.2.1, u.2.2) (1 : Int32)).2, rfl, (⟨by rw [kset, if_pos c_2, if_neg c_4, if_neg c_6], by rw [kset, if_pos c_2, if_neg c_4, if_neg c_6]⟩), by rw [ht9]; exact hP, va_K.moved hW9.alike hK, hD⟩, hS.F ht9⟩) hS.2.2 dX1_set_35 hlocks
def kget (u : mS) (r : Int32) : Int64 × mS :=
  if (kout r) = (0 : Int32) then
    (u.2.1 r.toNatClampNeg, ((0 : Int32), u.2.1, u.2.2))
  else (((kfail ((0 : Int32), u.2.1, u.2.2) (1 : Int32)).1).toInt64, (kfail ((0 : Int32), u.2.1, u.2.2) (1 : Int32)).2)
set_option maxHeartbeats 4000000 in
set_option maxRecDepth 100000 in
theorem tX1_get (l : Launch) (t : Nat) (D : va_G) (m0 m1 m2 : Nat) (cJ cI : ClassId) (u : mS) (r : Int32) : gMl l yX1_get cX1_get 2 { frames := 2, cells := 0, slots := 0, locals := 60 } t D m0 m1 m2 cJ cI u [.int r] (fun z9 u9 => z9 = (kget u r).1 ∧ u9 = (kget u r).2) := by
  refine g_openMl (by decide +kernel) (Nat.le_of_ble_eq_true rfl) ?_
  intro p e s m below meth c ls A hA S hr hlocks hE hP hK hD hl
  obtain ⟨hx, hb, hml, hown, hts⟩ := id S
  have hs : ∀ w ∈ gws, w ∈ Cond.code yX1_get cX1_get 2 (some .long) :: gws := fun w h => List.mem_cons_of_mem _ h
  have hS : va_S A s.heap s.heap [] := va_S.rf
  have hl : lv_has ls 2 [(0, .ref m0), (1, .int r)] := hl
  refine lv_aload_n hx hb dX1_get_0 rfl (lv_at hl 0 rfl) ?_
  refine lv_iconst (v := 0) hx hb dX1_get_1 (by decide) ?_
  refine va_put (ci := 1) (v := .int (0 : Int32)) (ty := .int) (C := RX1) (T := TX1) (N := 3) hx hb hts (fun w h => hs _ (inX1g w h)) tyX1 tyX1_ok nmX1 hown hK hP hD hS 0 rfl rfl 0 (by decide) (hts _ (hs _ fl_X1_17)) (fun _ h9 => h9) rfl (by decide +kernel) rfl rfl (Nat.le_of_ble_eq_true rfl) dX1_get_2 (fun H locs hP hD hS => ?_)
  have hP : va_P D vwCl (wM m0 m1 m2 cJ cI ((0 : Int32), u.2.1, u.2.2)) H := hP
  have hD : va_D A (wM m0 m1 m2 cJ cI ((0 : Int32), u.2.1, u.2.2)) := hD
  refine lv_aload_n hx hb dX1_get_5 rfl (lv_at hl 0 rfl) ?_
  refine lv_iload_n hx hb dX1_get_6 rfl (lv_at hl 1 rfl) ?_
  refine g_callPi S hs (tX1_out l m0 r) (va_recv hK hP (ci := 1) (q0 := 0) rfl rfl) ml_X1_21 im_yX1_out se_yX1_out in_X1 cd_yX1_out hd_yX1_out ⟨by decide, by decide⟩ hl.1 rfl (Nat.le_of_ble_eq_true rfl) ⟨by decide, by decide⟩ dX1_get_7 (fun r_1 hr_1 => ?_)
  subst hr_1
  refine lv_if_eq (tgt := 22) hx hb dX1_get_10 (by decide) (fun c_2 => ?_) (fun c_2 => ?_)
  · refine lv_aload_n hx hb dX1_get_22 rfl (lv_at hl 0 rfl) ?_
    refine va_get (ci := 1) (v := .ref m1) (C := RX1) (T := TX1) (N := 3) hx hb hts (fun w h => hs _ (inX1g w h)) hown hK hP 0 rfl rfl 1 (by decide) (hts _ (hs _ fl_X1_7)) (fun _ h9 => h9) rfl dX1_get_23 ?_
    refine lv_iload_n hx hb dX1_get_26 rfl (lv_at hl 1 rfl) ?_
    refine va_lald hx hb hK hP 1 0 rfl rfl (out_in c_2) dX1_get_27 ?_
    exact W.lret (v := u.2.1 r.toNatClampNeg) hx hb hr (fun t9 ht9 hW9 => ⟨⟨u.2.1 r.toNatClampNeg, ((0 : Int32), u.2.1, u.2.2), rfl, (⟨by rw [kget, if_pos c_2], by rw [kget, if_pos c_2]⟩), by rw [ht9]; exact hP, va_K.moved hW9.alike hK, hD⟩, hS.F ht9⟩) hS.2.2 dX1_get_28 hlocks
  · refine lv_aload_n hx hb dX1_get_13 rfl (lv_at hl 0 rfl) ?_
    refine lv_iconst (v := 1) hx hb dX1_get_14 (by decide) ?_
    refine g_callMi S hs (tX1_fail l t D m0 m1 m2 cJ cI ((0 : Int32), u.2.1, u.2.2) (1 : Int32)) rfl ml_X1_29 im_yX1_fail se_yX1_fail cd_yX1_fail hd_yX1_fail ⟨by decide, by decide⟩ hE hS hA hP hK hD hl.1 rfl (Nat.le_of_ble_eq_true rfl) ⟨by decide, by decide⟩ dX1_get_15 (fun r_3 u_3 H locs hr_3 hP hD hS => ?_)
    obtain ⟨rfl, rfl⟩ := hr_3
    refine lv_i2l hx hb dX1_get_18 rfl ?_
    refine lv_goto (tgt := 28) hx hb dX1_get_19 (by decide) ?_
    exact W.lret (v := ((kfail ((0 : Int32), u.2.1, u.2.2) (1 : Int32)).1).toInt64) hx hb hr (fun t9 ht9 hW9 => ⟨⟨((kfail ((0 : Int32), u.2.1, u.2.2) (1 : Int32)).1).toInt64, (kfail ((0 : Int32), u.2.1, u.2.2) (1 : Int32)).2, rfl, (⟨by rw [kget, if_neg c_2], by rw [kget, if_neg c_2]⟩), by rw [ht9]; exact hP, va_K.moved hW9.alike hK, hD⟩, hS.F ht9⟩) hS.2.2 dX1_get_28 hlocks
def kreckon (u : mS) (r : Int32) (op : Int32) (a : Int32) (b : Int32) : Int64 × mS :=
  if (kout r) = (0 : Int32) then
    if op < (0 : Int32) then
      (((kfail ((0 : Int32), u.2.1, u.2.2) (1 : Int32)).1).toInt64, (kfail ((0 : Int32), u.2.1, u.2.2) (1 : Int32)).2)
    else if (4 : Int32) < op then
      (((kfail ((0 : Int32), u.2.1, u.2.2) (1 : Int32)).1).toInt64, (kfail ((0 : Int32), u.2.1, u.2.2) (1 : Int32)).2)
    else if (kout a) = (0 : Int32) then
      if (kout b) = (0 : Int32) then
        if op ≤ (2 : Int32) then
          if (2 : Int32) ≤ op then
            if (0 : Int64) ≤ (u.2.1 a.toNatClampNeg) then
              if (0 : Int64) ≤ (u.2.1 b.toNatClampNeg) then
                if op = (2 : Int32) then
                  ((kput ((0 : Int32), u.2.1, u.2.2) r (0 : Int32) (kproduct (jX1_size (u.2.1 a.toNatClampNeg)) (jX1_size (u.2.1 b.toNatClampNeg))) (3 : Int32)).1, (kput ((0 : Int32), u.2.1, u.2.2) r (0 : Int32) (kproduct (jX1_size (u.2.1 a.toNatClampNeg)) (jX1_size (u.2.1 b.toNatClampNeg))) (3 : Int32)).2)
                else (0, u)
              else if op = (2 : Int32) then
                ((kput ((0 : Int32), u.2.1, u.2.2) r (1 : Int32) (kproduct (jX1_size (u.2.1 a.toNatClampNeg)) (jX1_size (u.2.1 b.toNatClampNeg))) (3 : Int32)).1, (kput ((0 : Int32), u.2.1, u.2.2) r (1 : Int32) (kproduct (jX1_size (u.2.1 a.toNatClampNeg)) (jX1_size (u.2.1 b.toNatClampNeg))) (3 : Int32)).2)
              else (0, u)
            else if (0 : Int64) ≤ (u.2.1 b.toNatClampNeg) then
              if op = (2 : Int32) then
                ((kput ((0 : Int32), u.2.1, u.2.2) r (1 : Int32) (kproduct (jX1_size (u.2.1 a.toNatClampNeg)) (jX1_size (u.2.1 b.toNatClampNeg))) (3 : Int32)).1, (kput ((0 : Int32), u.2.1, u.2.2) r (1 : Int32) (kproduct (jX1_size (u.2.1 a.toNatClampNeg)) (jX1_size (u.2.1 b.toNatClampNeg))) (3 : Int32)).2)
              else (0, u)
            else if op = (2 : Int32) then
              ((kput ((0 : Int32), u.2.1, u.2.2) r (0 : Int32) (kproduct (jX1_size (u.2.1 a.toNatClampNeg)) (jX1_size (u.2.1 b.toNatClampNeg))) (3 : Int32)).1, (kput ((0 : Int32), u.2.1, u.2.2) r (0 : Int32) (kproduct (jX1_size (u.2.1 a.toNatClampNeg)) (jX1_size (u.2.1 b.toNatClampNeg))) (3 : Int32)).2)
            else (0, u)
          else if op = (0 : Int32) then
            if (0 : Int64) ≤ ((u.2.1 a.toNatClampNeg) + (u.2.1 b.toNatClampNeg)) then
              ((kput ((0 : Int32), u.2.1, u.2.2) r (0 : Int32) (jX1_size ((u.2.1 a.toNatClampNeg) + (u.2.1 b.toNatClampNeg))) (3 : Int32)).1, (kput ((0 : Int32), u.2.1, u.2.2) r (0 : Int32) (jX1_size ((u.2.1 a.toNatClampNeg) + (u.2.1 b.toNatClampNeg))) (3 : Int32)).2)
            else ((kput ((0 : Int32), u.2.1, u.2.2) r (1 : Int32) (jX1_size ((u.2.1 a.toNatClampNeg) + (u.2.1 b.toNatClampNeg))) (3 : Int32)).1, (kput ((0 : Int32), u.2.1, u.2.2) r (1 : Int32) (jX1_size ((u.2.1 a.toNatClampNeg) + (u.2.1 b.toNatClampNeg))) (3 : Int32)).2)
          else if (0 : Int64) ≤ ((u.2.1 a.toNatClampNeg) - (u.2.1 b.toNatClampNeg)) then
            ((kput ((0 : Int32), u.2.1, u.2.2) r (0 : Int32) (jX1_size ((u.2.1 a.toNatClampNeg) - (u.2.1 b.toNatClampNeg))) (3 : Int32)).1, (kput ((0 : Int32), u.2.1, u.2.2) r (0 : Int32) (jX1_size ((u.2.1 a.toNatClampNeg) - (u.2.1 b.toNatClampNeg))) (3 : Int32)).2)
          else ((kput ((0 : Int32), u.2.1, u.2.2) r (1 : Int32) (jX1_size ((u.2.1 a.toNatClampNeg) - (u.2.1 b.toNatClampNeg))) (3 : Int32)).1, (kput ((0 : Int32), u.2.1, u.2.2) r (1 : Int32) (jX1_size ((u.2.1 a.toNatClampNeg) - (u.2.1 b.toNatClampNeg))) (3 : Int32)).2)
        else if (u.2.1 b.toNatClampNeg) = (0 : Int64) then
          (((kfail ((0 : Int32), u.2.1, u.2.2) (2 : Int32)).1).toInt64, (kfail ((0 : Int32), u.2.1, u.2.2) (2 : Int32)).2)
        else if (2 : Int32) ≤ op then
          if (0 : Int64) ≤ (u.2.1 a.toNatClampNeg) then
            if (0 : Int64) ≤ (u.2.1 b.toNatClampNeg) then
              if op = (2 : Int32) then
                ((kput ((0 : Int32), u.2.1, u.2.2) r (0 : Int32) (kproduct (jX1_size (u.2.1 a.toNatClampNeg)) (jX1_size (u.2.1 b.toNatClampNeg))) (3 : Int32)).1, (kput ((0 : Int32), u.2.1, u.2.2) r (0 : Int32) (kproduct (jX1_size (u.2.1 a.toNatClampNeg)) (jX1_size (u.2.1 b.toNatClampNeg))) (3 : Int32)).2)
              else if op = (3 : Int32) then
                ((kput ((0 : Int32), u.2.1, u.2.2) r (0 : Int32) (kquotient (jX1_size (u.2.1 a.toNatClampNeg)) (jX1_size (u.2.1 b.toNatClampNeg))) (3 : Int32)).1, (kput ((0 : Int32), u.2.1, u.2.2) r (0 : Int32) (kquotient (jX1_size (u.2.1 a.toNatClampNeg)) (jX1_size (u.2.1 b.toNatClampNeg))) (3 : Int32)).2)
              else if ((jX1_size (u.2.1 a.toNatClampNeg)) - (jX1_size (u.2.1 a.toNatClampNeg)) / (jX1_size (u.2.1 b.toNatClampNeg)) * (jX1_size (u.2.1 b.toNatClampNeg))) ≤ (0 : Int64) then
                ((kput ((0 : Int32), u.2.1, u.2.2) r (0 : Int32) ((jX1_size (u.2.1 a.toNatClampNeg)) - (jX1_size (u.2.1 a.toNatClampNeg)) / (jX1_size (u.2.1 b.toNatClampNeg)) * (jX1_size (u.2.1 b.toNatClampNeg))) (3 : Int32)).1, (kput ((0 : Int32), u.2.1, u.2.2) r (0 : Int32) ((jX1_size (u.2.1 a.toNatClampNeg)) - (jX1_size (u.2.1 a.toNatClampNeg)) / (jX1_size (u.2.1 b.toNatClampNeg)) * (jX1_size (u.2.1 b.toNatClampNeg))) (3 : Int32)).2)
              else ((kput ((0 : Int32), u.2.1, u.2.2) r (0 : Int32) ((jX1_size (u.2.1 a.toNatClampNeg)) - (jX1_size (u.2.1 a.toNatClampNeg)) / (jX1_size (u.2.1 b.toNatClampNeg)) * (jX1_size (u.2.1 b.toNatClampNeg))) (3 : Int32)).1, (kput ((0 : Int32), u.2.1, u.2.2) r (0 : Int32) ((jX1_size (u.2.1 a.toNatClampNeg)) - (jX1_size (u.2.1 a.toNatClampNeg)) / (jX1_size (u.2.1 b.toNatClampNeg)) * (jX1_size (u.2.1 b.toNatClampNeg))) (3 : Int32)).2)
            else if op = (2 : Int32) then
              ((kput ((0 : Int32), u.2.1, u.2.2) r (1 : Int32) (kproduct (jX1_size (u.2.1 a.toNatClampNeg)) (jX1_size (u.2.1 b.toNatClampNeg))) (3 : Int32)).1, (kput ((0 : Int32), u.2.1, u.2.2) r (1 : Int32) (kproduct (jX1_size (u.2.1 a.toNatClampNeg)) (jX1_size (u.2.1 b.toNatClampNeg))) (3 : Int32)).2)
            else if op = (3 : Int32) then
              ((kput ((0 : Int32), u.2.1, u.2.2) r (1 : Int32) (kquotient (jX1_size (u.2.1 a.toNatClampNeg)) (jX1_size (u.2.1 b.toNatClampNeg))) (3 : Int32)).1, (kput ((0 : Int32), u.2.1, u.2.2) r (1 : Int32) (kquotient (jX1_size (u.2.1 a.toNatClampNeg)) (jX1_size (u.2.1 b.toNatClampNeg))) (3 : Int32)).2)
            else if ((jX1_size (u.2.1 a.toNatClampNeg)) - (jX1_size (u.2.1 a.toNatClampNeg)) / (jX1_size (u.2.1 b.toNatClampNeg)) * (jX1_size (u.2.1 b.toNatClampNeg))) ≤ (0 : Int64) then
              ((kput ((0 : Int32), u.2.1, u.2.2) r (1 : Int32) ((jX1_size (u.2.1 a.toNatClampNeg)) - (jX1_size (u.2.1 a.toNatClampNeg)) / (jX1_size (u.2.1 b.toNatClampNeg)) * (jX1_size (u.2.1 b.toNatClampNeg))) (3 : Int32)).1, (kput ((0 : Int32), u.2.1, u.2.2) r (1 : Int32) ((jX1_size (u.2.1 a.toNatClampNeg)) - (jX1_size (u.2.1 a.toNatClampNeg)) / (jX1_size (u.2.1 b.toNatClampNeg)) * (jX1_size (u.2.1 b.toNatClampNeg))) (3 : Int32)).2)
            else ((kput ((0 : Int32), u.2.1, u.2.2) r (1 : Int32) ((jX1_size (u.2.1 b.toNatClampNeg)) - ((jX1_size (u.2.1 a.toNatClampNeg)) - (jX1_size (u.2.1 a.toNatClampNeg)) / (jX1_size (u.2.1 b.toNatClampNeg)) * (jX1_size (u.2.1 b.toNatClampNeg)))) (3 : Int32)).1, (kput ((0 : Int32), u.2.1, u.2.2) r (1 : Int32) ((jX1_size (u.2.1 b.toNatClampNeg)) - ((jX1_size (u.2.1 a.toNatClampNeg)) - (jX1_size (u.2.1 a.toNatClampNeg)) / (jX1_size (u.2.1 b.toNatClampNeg)) * (jX1_size (u.2.1 b.toNatClampNeg)))) (3 : Int32)).2)
          else if (0 : Int64) ≤ (u.2.1 b.toNatClampNeg) then
            if op = (2 : Int32) then
              ((kput ((0 : Int32), u.2.1, u.2.2) r (1 : Int32) (kproduct (jX1_size (u.2.1 a.toNatClampNeg)) (jX1_size (u.2.1 b.toNatClampNeg))) (3 : Int32)).1, (kput ((0 : Int32), u.2.1, u.2.2) r (1 : Int32) (kproduct (jX1_size (u.2.1 a.toNatClampNeg)) (jX1_size (u.2.1 b.toNatClampNeg))) (3 : Int32)).2)
            else if op = (3 : Int32) then
              ((kput ((0 : Int32), u.2.1, u.2.2) r (1 : Int32) (kquotient (jX1_size (u.2.1 a.toNatClampNeg)) (jX1_size (u.2.1 b.toNatClampNeg))) (3 : Int32)).1, (kput ((0 : Int32), u.2.1, u.2.2) r (1 : Int32) (kquotient (jX1_size (u.2.1 a.toNatClampNeg)) (jX1_size (u.2.1 b.toNatClampNeg))) (3 : Int32)).2)
            else if ((jX1_size (u.2.1 a.toNatClampNeg)) - (jX1_size (u.2.1 a.toNatClampNeg)) / (jX1_size (u.2.1 b.toNatClampNeg)) * (jX1_size (u.2.1 b.toNatClampNeg))) ≤ (0 : Int64) then
              ((kput ((0 : Int32), u.2.1, u.2.2) r (0 : Int32) ((jX1_size (u.2.1 a.toNatClampNeg)) - (jX1_size (u.2.1 a.toNatClampNeg)) / (jX1_size (u.2.1 b.toNatClampNeg)) * (jX1_size (u.2.1 b.toNatClampNeg))) (3 : Int32)).1, (kput ((0 : Int32), u.2.1, u.2.2) r (0 : Int32) ((jX1_size (u.2.1 a.toNatClampNeg)) - (jX1_size (u.2.1 a.toNatClampNeg)) / (jX1_size (u.2.1 b.toNatClampNeg)) * (jX1_size (u.2.1 b.toNatClampNeg))) (3 : Int32)).2)
            else ((kput ((0 : Int32), u.2.1, u.2.2) r (0 : Int32) ((jX1_size (u.2.1 b.toNatClampNeg)) - ((jX1_size (u.2.1 a.toNatClampNeg)) - (jX1_size (u.2.1 a.toNatClampNeg)) / (jX1_size (u.2.1 b.toNatClampNeg)) * (jX1_size (u.2.1 b.toNatClampNeg)))) (3 : Int32)).1, (kput ((0 : Int32), u.2.1, u.2.2) r (0 : Int32) ((jX1_size (u.2.1 b.toNatClampNeg)) - ((jX1_size (u.2.1 a.toNatClampNeg)) - (jX1_size (u.2.1 a.toNatClampNeg)) / (jX1_size (u.2.1 b.toNatClampNeg)) * (jX1_size (u.2.1 b.toNatClampNeg)))) (3 : Int32)).2)
          else if op = (2 : Int32) then
            ((kput ((0 : Int32), u.2.1, u.2.2) r (0 : Int32) (kproduct (jX1_size (u.2.1 a.toNatClampNeg)) (jX1_size (u.2.1 b.toNatClampNeg))) (3 : Int32)).1, (kput ((0 : Int32), u.2.1, u.2.2) r (0 : Int32) (kproduct (jX1_size (u.2.1 a.toNatClampNeg)) (jX1_size (u.2.1 b.toNatClampNeg))) (3 : Int32)).2)
          else if op = (3 : Int32) then
            ((kput ((0 : Int32), u.2.1, u.2.2) r (0 : Int32) (kquotient (jX1_size (u.2.1 a.toNatClampNeg)) (jX1_size (u.2.1 b.toNatClampNeg))) (3 : Int32)).1, (kput ((0 : Int32), u.2.1, u.2.2) r (0 : Int32) (kquotient (jX1_size (u.2.1 a.toNatClampNeg)) (jX1_size (u.2.1 b.toNatClampNeg))) (3 : Int32)).2)
          else if ((jX1_size (u.2.1 a.toNatClampNeg)) - (jX1_size (u.2.1 a.toNatClampNeg)) / (jX1_size (u.2.1 b.toNatClampNeg)) * (jX1_size (u.2.1 b.toNatClampNeg))) ≤ (0 : Int64) then
            ((kput ((0 : Int32), u.2.1, u.2.2) r (1 : Int32) ((jX1_size (u.2.1 a.toNatClampNeg)) - (jX1_size (u.2.1 a.toNatClampNeg)) / (jX1_size (u.2.1 b.toNatClampNeg)) * (jX1_size (u.2.1 b.toNatClampNeg))) (3 : Int32)).1, (kput ((0 : Int32), u.2.1, u.2.2) r (1 : Int32) ((jX1_size (u.2.1 a.toNatClampNeg)) - (jX1_size (u.2.1 a.toNatClampNeg)) / (jX1_size (u.2.1 b.toNatClampNeg)) * (jX1_size (u.2.1 b.toNatClampNeg))) (3 : Int32)).2)
          else ((kput ((0 : Int32), u.2.1, u.2.2) r (1 : Int32) ((jX1_size (u.2.1 a.toNatClampNeg)) - (jX1_size (u.2.1 a.toNatClampNeg)) / (jX1_size (u.2.1 b.toNatClampNeg)) * (jX1_size (u.2.1 b.toNatClampNeg))) (3 : Int32)).1, (kput ((0 : Int32), u.2.1, u.2.2) r (1 : Int32) ((jX1_size (u.2.1 a.toNatClampNeg)) - (jX1_size (u.2.1 a.toNatClampNeg)) / (jX1_size (u.2.1 b.toNatClampNeg)) * (jX1_size (u.2.1 b.toNatClampNeg))) (3 : Int32)).2)
        else if op = (0 : Int32) then
          if (0 : Int64) ≤ ((u.2.1 a.toNatClampNeg) + (u.2.1 b.toNatClampNeg)) then
            ((kput ((0 : Int32), u.2.1, u.2.2) r (0 : Int32) (jX1_size ((u.2.1 a.toNatClampNeg) + (u.2.1 b.toNatClampNeg))) (3 : Int32)).1, (kput ((0 : Int32), u.2.1, u.2.2) r (0 : Int32) (jX1_size ((u.2.1 a.toNatClampNeg) + (u.2.1 b.toNatClampNeg))) (3 : Int32)).2)
          else ((kput ((0 : Int32), u.2.1, u.2.2) r (1 : Int32) (jX1_size ((u.2.1 a.toNatClampNeg) + (u.2.1 b.toNatClampNeg))) (3 : Int32)).1, (kput ((0 : Int32), u.2.1, u.2.2) r (1 : Int32) (jX1_size ((u.2.1 a.toNatClampNeg) + (u.2.1 b.toNatClampNeg))) (3 : Int32)).2)
        else if (0 : Int64) ≤ ((u.2.1 a.toNatClampNeg) - (u.2.1 b.toNatClampNeg)) then
          ((kput ((0 : Int32), u.2.1, u.2.2) r (0 : Int32) (jX1_size ((u.2.1 a.toNatClampNeg) - (u.2.1 b.toNatClampNeg))) (3 : Int32)).1, (kput ((0 : Int32), u.2.1, u.2.2) r (0 : Int32) (jX1_size ((u.2.1 a.toNatClampNeg) - (u.2.1 b.toNatClampNeg))) (3 : Int32)).2)
        else ((kput ((0 : Int32), u.2.1, u.2.2) r (1 : Int32) (jX1_size ((u.2.1 a.toNatClampNeg) - (u.2.1 b.toNatClampNeg))) (3 : Int32)).1, (kput ((0 : Int32), u.2.1, u.2.2) r (1 : Int32) (jX1_size ((u.2.1 a.toNatClampNeg) - (u.2.1 b.toNatClampNeg))) (3 : Int32)).2)
      else (((kfail ((0 : Int32), u.2.1, u.2.2) (1 : Int32)).1).toInt64, (kfail ((0 : Int32), u.2.1, u.2.2) (1 : Int32)).2)
    else (((kfail ((0 : Int32), u.2.1, u.2.2) (1 : Int32)).1).toInt64, (kfail ((0 : Int32), u.2.1, u.2.2) (1 : Int32)).2)
  else (((kfail ((0 : Int32), u.2.1, u.2.2) (1 : Int32)).1).toInt64, (kfail ((0 : Int32), u.2.1, u.2.2) (1 : Int32)).2)
set_option maxHeartbeats 4000000 in
set_option maxRecDepth 100000 in
theorem tX1_reckon (l : Launch) (t : Nat) (D : va_G) (m0 m1 m2 : Nat) (cJ cI : ClassId) (u : mS) (r : Int32) (op : Int32) (a : Int32) (b : Int32) : gMl l yX1_reckon cX1_reckon 12 { frames := 2, cells := 0, slots := 0, locals := 60 } t D m0 m1 m2 cJ cI u [.int r, .int op, .int a, .int b] (fun z9 u9 => z9 = (kreckon u r op a b).1 ∧ u9 = (kreckon u r op a b).2) := by
  refine g_openMl (by decide +kernel) (Nat.le_of_ble_eq_true rfl) ?_
  intro p e s m below meth c ls A hA S hr hlocks hE hP hK hD hl
  obtain ⟨hx, hb, hml, hown, hts⟩ := id S
  have hs : ∀ w ∈ gws, w ∈ Cond.code yX1_reckon cX1_reckon 12 (some .long) :: gws := fun w h => List.mem_cons_of_mem _ h
  have hS : va_S A s.heap s.heap [] := va_S.rf
  have hl : lv_has ls 12 [(0, .ref m0), (1, .int r), (2, .int op), (3, .int a), (4, .int b)] := hl
  refine lv_aload_n hx hb dX1_reckon_0 rfl (lv_at hl 0 rfl) ?_
  refine lv_iconst (v := 0) hx hb dX1_reckon_1 (by decide) ?_
  refine va_put (ci := 1) (v := .int (0 : Int32)) (ty := .int) (C := RX1) (T := TX1) (N := 3) hx hb hts (fun w h => hs _ (inX1g w h)) tyX1 tyX1_ok nmX1 hown hK hP hD hS 0 rfl rfl 0 (by decide) (hts _ (hs _ fl_X1_17)) (fun _ h9 => h9) rfl (by decide +kernel) rfl rfl (Nat.le_of_ble_eq_true rfl) dX1_reckon_2 (fun H locs hP hD hS => ?_)
  have hP : va_P D vwCl (wM m0 m1 m2 cJ cI ((0 : Int32), u.2.1, u.2.2)) H := hP
  have hD : va_D A (wM m0 m1 m2 cJ cI ((0 : Int32), u.2.1, u.2.2)) := hD
  refine lv_aload_n hx hb dX1_reckon_5 rfl (lv_at hl 0 rfl) ?_
  refine lv_iload_n hx hb dX1_reckon_6 rfl (lv_at hl 1 rfl) ?_
  refine g_callPi S hs (tX1_out l m0 r) (va_recv hK hP (ci := 1) (q0 := 0) rfl rfl) ml_X1_21 im_yX1_out se_yX1_out in_X1 cd_yX1_out hd_yX1_out ⟨by decide, by decide⟩ hl.1 rfl (Nat.le_of_ble_eq_true rfl) ⟨by decide, by decide⟩ dX1_reckon_7 (fun r_1 hr_1 => ?_)
  subst hr_1
  refine lv_if_ne (tgt := 39) hx hb dX1_reckon_10 (by decide) (fun c_2 => ?_) (fun c_2 => ?_)
  · refine lv_aload_n hx hb dX1_reckon_39 rfl (lv_at hl 0 rfl) ?_
    refine lv_iconst (v := 1) hx hb dX1_reckon_40 (by decide) ?_
    refine g_callMi S hs (tX1_fail l t D m0 m1 m2 cJ cI ((0 : Int32), u.2.1, u.2.2) (1 : Int32)) rfl ml_X1_29 im_yX1_fail se_yX1_fail cd_yX1_fail hd_yX1_fail ⟨by decide, by decide⟩ hE hS hA hP hK hD hl.1 rfl (Nat.le_of_ble_eq_true rfl) ⟨by decide, by decide⟩ dX1_reckon_41 (fun r_3 u_3 H locs hr_3 hP hD hS => ?_)
    obtain ⟨rfl, rfl⟩ := hr_3
    refine lv_i2l hx hb dX1_reckon_44 rfl ?_
    exact W.lret (v := ((kfail ((0 : Int32), u.2.1, u.2.2) (1 : Int32)).1).toInt64) hx hb hr (fun t9 ht9 hW9 => ⟨⟨((kfail ((0 : Int32), u.2.1, u.2.2) (1 : Int32)).1).toInt64, (kfail ((0 : Int32), u.2.1, u.2.2) (1 : Int32)).2, rfl, (⟨by rw [kreckon, if_neg c_2], by rw [kreckon, if_neg c_2]⟩), by rw [ht9]; exact hP, va_K.moved hW9.alike hK, hD⟩, hS.F ht9⟩) hS.2.2 dX1_reckon_45 hlocks
  · refine lv_iload_n hx hb dX1_reckon_13 rfl (lv_at hl 2 rfl) ?_
    refine lv_if_lt (tgt := 39) hx hb dX1_reckon_14 (by decide) (fun c_4 => ?_) (fun c_4 => ?_)
    · refine lv_aload_n hx hb dX1_reckon_39 rfl (lv_at hl 0 rfl) ?_
      refine lv_iconst (v := 1) hx hb dX1_reckon_40 (by decide) ?_
      refine g_callMi S hs (tX1_fail l t D m0 m1 m2 cJ cI ((0 : Int32), u.2.1, u.2.2) (1 : Int32)) rfl ml_X1_29 im_yX1_fail se_yX1_fail cd_yX1_fail hd_yX1_fail ⟨by decide, by decide⟩ hE hS hA hP hK hD hl.1 rfl (Nat.le_of_ble_eq_true rfl) ⟨by decide, by decide⟩ dX1_reckon_41 (fun r_5 u_5 H locs hr_5 hP hD hS => ?_)
      obtain ⟨rfl, rfl⟩ := hr_5
      refine lv_i2l hx hb dX1_reckon_44 rfl ?_
      exact W.lret (v := ((kfail ((0 : Int32), u.2.1, u.2.2) (1 : Int32)).1).toInt64) hx hb hr (fun t9 ht9 hW9 => ⟨⟨((kfail ((0 : Int32), u.2.1, u.2.2) (1 : Int32)).1).toInt64, (kfail ((0 : Int32), u.2.1, u.2.2) (1 : Int32)).2, rfl, (⟨by rw [kreckon, if_pos c_2, if_pos c_4], by rw [kreckon, if_pos c_2, if_pos c_4]⟩), by rw [ht9]; exact hP, va_K.moved hW9.alike hK, hD⟩, hS.F ht9⟩) hS.2.2 dX1_reckon_45 hlocks
    · refine lv_iload_n hx hb dX1_reckon_17 rfl (lv_at hl 2 rfl) ?_
      refine lv_iconst (v := 4) hx hb dX1_reckon_18 (by decide) ?_
      refine lv_icmp_gt (tgt := 39) hx hb dX1_reckon_19 (by decide) (fun c_6 => ?_) (fun c_6 => ?_)
      · refine lv_aload_n hx hb dX1_reckon_39 rfl (lv_at hl 0 rfl) ?_
        refine lv_iconst (v := 1) hx hb dX1_reckon_40 (by decide) ?_
        refine g_callMi S hs (tX1_fail l t D m0 m1 m2 cJ cI ((0 : Int32), u.2.1, u.2.2) (1 : Int32)) rfl ml_X1_29 im_yX1_fail se_yX1_fail cd_yX1_fail hd_yX1_fail ⟨by decide, by decide⟩ hE hS hA hP hK hD hl.1 rfl (Nat.le_of_ble_eq_true rfl) ⟨by decide, by decide⟩ dX1_reckon_41 (fun r_7 u_7 H locs hr_7 hP hD hS => ?_)
        obtain ⟨rfl, rfl⟩ := hr_7
        refine lv_i2l hx hb dX1_reckon_44 rfl ?_
        exact W.lret (v := ((kfail ((0 : Int32), u.2.1, u.2.2) (1 : Int32)).1).toInt64) hx hb hr (fun t9 ht9 hW9 => ⟨⟨((kfail ((0 : Int32), u.2.1, u.2.2) (1 : Int32)).1).toInt64, (kfail ((0 : Int32), u.2.1, u.2.2) (1 : Int32)).2, rfl, (⟨by rw [kreckon, if_pos c_2, if_neg c_4, if_pos c_6], by rw [kreckon, if_pos c_2, if_neg c_4, if_pos c_6]⟩), by rw [ht9]; exact hP, va_K.moved hW9.alike hK, hD⟩, hS.F ht9⟩) hS.2.2 dX1_reckon_45 hlocks
      · refine lv_aload_n hx hb dX1_reckon_22 rfl (lv_at hl 0 rfl) ?_
        refine lv_iload_n hx hb dX1_reckon_23 rfl (lv_at hl 3 rfl) ?_
        refine g_callPi S hs (tX1_out l m0 a) (va_recv hK hP (ci := 1) (q0 := 0) rfl rfl) ml_X1_21 im_yX1_out se_yX1_out in_X1 cd_yX1_out hd_yX1_out ⟨by decide, by decide⟩ hl.1 rfl (Nat.le_of_ble_eq_true rfl) ⟨by decide, by decide⟩ dX1_reckon_24 (fun r_8 hr_8 => ?_)
        subst hr_8
        refine lv_if_ne (tgt := 39) hx hb dX1_reckon_27 (by decide) (fun c_9 => ?_) (fun c_9 => ?_)
        · refine lv_aload_n hx hb dX1_reckon_39 rfl (lv_at hl 0 rfl) ?_
          refine lv_iconst (v := 1) hx hb dX1_reckon_40 (by decide) ?_
          refine g_callMi S hs (tX1_fail l t D m0 m1 m2 cJ cI ((0 : Int32), u.2.1, u.2.2) (1 : Int32)) rfl ml_X1_29 im_yX1_fail se_yX1_fail cd_yX1_fail hd_yX1_fail ⟨by decide, by decide⟩ hE hS hA hP hK hD hl.1 rfl (Nat.le_of_ble_eq_true rfl) ⟨by decide, by decide⟩ dX1_reckon_41 (fun r_10 u_10 H locs hr_10 hP hD hS => ?_)
          obtain ⟨rfl, rfl⟩ := hr_10
          refine lv_i2l hx hb dX1_reckon_44 rfl ?_
          exact W.lret (v := ((kfail ((0 : Int32), u.2.1, u.2.2) (1 : Int32)).1).toInt64) hx hb hr (fun t9 ht9 hW9 => ⟨⟨((kfail ((0 : Int32), u.2.1, u.2.2) (1 : Int32)).1).toInt64, (kfail ((0 : Int32), u.2.1, u.2.2) (1 : Int32)).2, rfl, (⟨by rw [kreckon, if_pos c_2, if_neg c_4, if_neg c_6, if_neg c_9], by rw [kreckon, if_pos c_2, if_neg c_4, if_neg c_6, if_neg c_9]⟩), by rw [ht9]; exact hP, va_K.moved hW9.alike hK, hD⟩, hS.F ht9⟩) hS.2.2 dX1_reckon_45 hlocks
        · refine lv_aload_n hx hb dX1_reckon_30 rfl (lv_at hl 0 rfl) ?_
          refine lv_iload hx hb dX1_reckon_31 (lv_at hl 4 rfl) ?_
          refine g_callPi S hs (tX1_out l m0 b) (va_recv hK hP (ci := 1) (q0 := 0) rfl rfl) ml_X1_21 im_yX1_out se_yX1_out in_X1 cd_yX1_out hd_yX1_out ⟨by decide, by decide⟩ hl.1 rfl (Nat.le_of_ble_eq_true rfl) ⟨by decide, by decide⟩ dX1_reckon_33 (fun r_11 hr_11 => ?_)
          subst hr_11
          refine lv_if_eq (tgt := 46) hx hb dX1_reckon_36 (by decide) (fun c_12 => ?_) (fun c_12 => ?_)
          · refine lv_aload_n hx hb dX1_reckon_46 rfl (lv_at hl 0 rfl) ?_
            refine va_get (ci := 1) (v := .ref m1) (C := RX1) (T := TX1) (N := 3) hx hb hts (fun w h => hs _ (inX1g w h)) hown hK hP 0 rfl rfl 1 (by decide) (hts _ (hs _ fl_X1_7)) (fun _ h9 => h9) rfl dX1_reckon_47 ?_
            refine lv_iload_n hx hb dX1_reckon_50 rfl (lv_at hl 3 rfl) ?_
            refine va_lald hx hb hK hP 1 0 rfl rfl (out_in c_9) dX1_reckon_51 ?_
            refine lv_lstore (lv' := [(5, .long (u.2.1 a.toNatClampNeg)), (0, .ref m0), (1, .int r), (2, .int op), (3, .int a), (4, .int b)]) hx hb dX1_reckon_52 hl (by decide) rfl (fun ls hl => ?_)
            refine lv_aload_n hx hb dX1_reckon_54 rfl (lv_at hl 1 rfl) ?_
            refine va_get (ci := 1) (v := .ref m1) (C := RX1) (T := TX1) (N := 3) hx hb hts (fun w h => hs _ (inX1g w h)) hown hK hP 0 rfl rfl 1 (by decide) (hts _ (hs _ fl_X1_7)) (fun _ h9 => h9) rfl dX1_reckon_55 ?_
            refine lv_iload hx hb dX1_reckon_58 (lv_at hl 5 rfl) ?_
            refine va_lald hx hb hK hP 1 0 rfl rfl (out_in c_12) dX1_reckon_60 ?_
            refine lv_lstore (lv' := [(7, .long (u.2.1 b.toNatClampNeg)), (5, .long (u.2.1 a.toNatClampNeg)), (0, .ref m0), (1, .int r), (2, .int op), (3, .int a), (4, .int b)]) hx hb dX1_reckon_61 hl (by decide) rfl (fun ls hl => ?_)
            refine lv_iload_n hx hb dX1_reckon_63 rfl (lv_at hl 4 rfl) ?_
            refine lv_iconst (v := 2) hx hb dX1_reckon_64 (by decide) ?_
            refine lv_icmp_le (tgt := 82) hx hb dX1_reckon_65 (by decide) (fun c_13 => ?_) (fun c_13 => ?_)
            · refine lv_iload_n hx hb dX1_reckon_82 rfl (lv_at hl 4 rfl) ?_
              refine lv_iconst (v := 2) hx hb dX1_reckon_83 (by decide) ?_
              refine lv_icmp_ge (tgt := 130) hx hb dX1_reckon_84 (by decide) (fun c_14 => ?_) (fun c_14 => ?_)
              · refine lv_lload hx hb dX1_reckon_130 (lv_at hl 1 rfl) ?_
                refine lv_lconst (v := 0) hx hb dX1_reckon_132 (by decide) ?_
                refine g_lc_ge (tgt := 141) hx hb dX1_reckon_133 dX1_reckon_134 (by decide) (fun c_15 => ?_) (fun c_15 => ?_)
                · refine lv_iconst (v := 0) hx hb dX1_reckon_141 (by decide) ?_
                  refine lv_lload hx hb dX1_reckon_142 (lv_at hl 0 rfl) ?_
                  refine lv_lconst (v := 0) hx hb dX1_reckon_144 (by decide) ?_
                  refine g_lc_ge (tgt := 153) hx hb dX1_reckon_145 dX1_reckon_146 (by decide) (fun c_16 => ?_) (fun c_16 => ?_)
                  · refine lv_iconst (v := 0) hx hb dX1_reckon_153 (by decide) ?_
                    refine lv_icmp_eq (tgt := 161) hx hb dX1_reckon_154 (by decide) (fun c_17 => ?_) (fun c_17 => absurd c_17 (by decide))
                    refine lv_iconst (v := 0) hx hb dX1_reckon_161 (by decide) ?_
                    refine lv_istore (lv' := [(9, .int (0 : Int32)), (7, .long (u.2.1 b.toNatClampNeg)), (5, .long (u.2.1 a.toNatClampNeg)), (0, .ref m0), (1, .int r), (2, .int op), (3, .int a), (4, .int b)]) hx hb dX1_reckon_162 hl (by decide) rfl (fun ls hl => ?_)
                    refine lv_iload_n hx hb dX1_reckon_164 rfl (lv_at hl 5 rfl) ?_
                    refine lv_iconst (v := 2) hx hb dX1_reckon_165 (by decide) ?_
                    refine lv_icmp_ne (tgt := 192) hx hb dX1_reckon_166 (by decide) (fun c_18 => ?_) (fun c_18 => ?_)
                    · exact absurd (Int32.le_antisymm c_13 c_14) c_18
                    · refine lv_aload_n hx hb dX1_reckon_169 rfl (lv_at hl 3 rfl) ?_
                      refine lv_iload_n hx hb dX1_reckon_170 rfl (lv_at hl 4 rfl) ?_
                      refine lv_iload hx hb dX1_reckon_171 (lv_at hl 0 rfl) ?_
                      refine lv_aload_n hx hb dX1_reckon_173 rfl (lv_at hl 3 rfl) ?_
                      refine lv_lload hx hb dX1_reckon_174 (lv_at hl 2 rfl) ?_
                      refine g_callSl S hs (tX1_size l t (u.2.1 a.toNatClampNeg)) ml_X1_39 st_yX1_size in_X1 cd_yX1_size hd_yX1_size ⟨by decide, by decide⟩ hE hS hA hl.1 rfl (Nat.le_of_ble_eq_true rfl) ⟨by decide, by decide⟩ dX1_reckon_176 (fun r_19 hr_19 => ?_)
                      subst hr_19
                      refine lv_lload hx hb dX1_reckon_179 (lv_at hl 1 rfl) ?_
                      refine g_callSl S hs (tX1_size l t (u.2.1 b.toNatClampNeg)) ml_X1_39 st_yX1_size in_X1 cd_yX1_size hd_yX1_size ⟨by decide, by decide⟩ hE hS hA hl.1 rfl (Nat.le_of_ble_eq_true rfl) ⟨by decide, by decide⟩ dX1_reckon_181 (fun r_20 hr_20 => ?_)
                      subst hr_20
                      refine g_callPl S hs (tX1_product l m0 (jX1_size (u.2.1 a.toNatClampNeg)) (jX1_size (u.2.1 b.toNatClampNeg))) (va_recv hK hP (ci := 1) (q0 := 0) rfl rfl) ml_X1_47 im_yX1_product se_yX1_product in_X1 cd_yX1_product hd_yX1_product ⟨by decide, by decide⟩ hl.1 rfl (Nat.le_of_ble_eq_true rfl) ⟨by decide, by decide⟩ dX1_reckon_184 (fun r_21 hr_21 => ?_)
                      subst hr_21
                      refine lv_iconst (v := 3) hx hb dX1_reckon_187 (by decide) ?_
                      refine g_callMl S hs (tX1_put l t D m0 m1 m2 cJ cI ((0 : Int32), u.2.1, u.2.2) r (0 : Int32) (kproduct (jX1_size (u.2.1 a.toNatClampNeg)) (jX1_size (u.2.1 b.toNatClampNeg))) (3 : Int32) (out_in (by assumption))) rfl ml_X1_43 im_yX1_put se_yX1_put cd_yX1_put hd_yX1_put ⟨by decide, by decide⟩ hE hS hA hP hK hD hl.1 rfl (Nat.le_of_ble_eq_true rfl) ⟨by decide, by decide⟩ dX1_reckon_188 (fun r_22 u_22 H locs hr_22 hP hD hS => ?_)
                      obtain ⟨rfl, rfl⟩ := hr_22
                      exact W.lret (v := (kput ((0 : Int32), u.2.1, u.2.2) r (0 : Int32) (kproduct (jX1_size (u.2.1 a.toNatClampNeg)) (jX1_size (u.2.1 b.toNatClampNeg))) (3 : Int32)).1) hx hb hr (fun t9 ht9 hW9 => ⟨⟨(kput ((0 : Int32), u.2.1, u.2.2) r (0 : Int32) (kproduct (jX1_size (u.2.1 a.toNatClampNeg)) (jX1_size (u.2.1 b.toNatClampNeg))) (3 : Int32)).1, (kput ((0 : Int32), u.2.1, u.2.2) r (0 : Int32) (kproduct (jX1_size (u.2.1 a.toNatClampNeg)) (jX1_size (u.2.1 b.toNatClampNeg))) (3 : Int32)).2, rfl, (⟨by rw [kreckon, if_pos c_2, if_neg c_4, if_neg c_6, if_pos c_9, if_pos c_12, if_pos c_13, if_pos c_14, if_pos c_15, if_pos c_16, if_pos c_18], by rw [kreckon, if_pos c_2, if_neg c_4, if_neg c_6, if_pos c_9, if_pos c_12, if_pos c_13, if_pos c_14, if_pos c_15, if_pos c_16, if_pos c_18]⟩), by rw [ht9]; exact hP, va_K.moved hW9.alike hK, hD⟩, hS.F ht9⟩) hS.2.2 dX1_reckon_191 hlocks
                  · refine lv_iconst (v := 1) hx hb dX1_reckon_149 (by decide) ?_
                    refine lv_goto (tgt := 154) hx hb dX1_reckon_150 (by decide) ?_
                    refine lv_icmp_eq (tgt := 161) hx hb dX1_reckon_154 (by decide) (fun c_23 => absurd c_23 (by decide)) (fun c_23 => ?_)
                    refine lv_iconst (v := 1) hx hb dX1_reckon_157 (by decide) ?_
                    refine lv_goto (tgt := 162) hx hb dX1_reckon_158 (by decide) ?_
                    refine lv_istore (lv' := [(9, .int (1 : Int32)), (7, .long (u.2.1 b.toNatClampNeg)), (5, .long (u.2.1 a.toNatClampNeg)), (0, .ref m0), (1, .int r), (2, .int op), (3, .int a), (4, .int b)]) hx hb dX1_reckon_162 hl (by decide) rfl (fun ls hl => ?_)
                    refine lv_iload_n hx hb dX1_reckon_164 rfl (lv_at hl 5 rfl) ?_
                    refine lv_iconst (v := 2) hx hb dX1_reckon_165 (by decide) ?_
                    refine lv_icmp_ne (tgt := 192) hx hb dX1_reckon_166 (by decide) (fun c_24 => ?_) (fun c_24 => ?_)
                    · exact absurd (Int32.le_antisymm c_13 c_14) c_24
                    · refine lv_aload_n hx hb dX1_reckon_169 rfl (lv_at hl 3 rfl) ?_
                      refine lv_iload_n hx hb dX1_reckon_170 rfl (lv_at hl 4 rfl) ?_
                      refine lv_iload hx hb dX1_reckon_171 (lv_at hl 0 rfl) ?_
                      refine lv_aload_n hx hb dX1_reckon_173 rfl (lv_at hl 3 rfl) ?_
                      refine lv_lload hx hb dX1_reckon_174 (lv_at hl 2 rfl) ?_
                      refine g_callSl S hs (tX1_size l t (u.2.1 a.toNatClampNeg)) ml_X1_39 st_yX1_size in_X1 cd_yX1_size hd_yX1_size ⟨by decide, by decide⟩ hE hS hA hl.1 rfl (Nat.le_of_ble_eq_true rfl) ⟨by decide, by decide⟩ dX1_reckon_176 (fun r_25 hr_25 => ?_)
                      subst hr_25
                      refine lv_lload hx hb dX1_reckon_179 (lv_at hl 1 rfl) ?_
                      refine g_callSl S hs (tX1_size l t (u.2.1 b.toNatClampNeg)) ml_X1_39 st_yX1_size in_X1 cd_yX1_size hd_yX1_size ⟨by decide, by decide⟩ hE hS hA hl.1 rfl (Nat.le_of_ble_eq_true rfl) ⟨by decide, by decide⟩ dX1_reckon_181 (fun r_26 hr_26 => ?_)
                      subst hr_26
                      refine g_callPl S hs (tX1_product l m0 (jX1_size (u.2.1 a.toNatClampNeg)) (jX1_size (u.2.1 b.toNatClampNeg))) (va_recv hK hP (ci := 1) (q0 := 0) rfl rfl) ml_X1_47 im_yX1_product se_yX1_product in_X1 cd_yX1_product hd_yX1_product ⟨by decide, by decide⟩ hl.1 rfl (Nat.le_of_ble_eq_true rfl) ⟨by decide, by decide⟩ dX1_reckon_184 (fun r_27 hr_27 => ?_)
                      subst hr_27
                      refine lv_iconst (v := 3) hx hb dX1_reckon_187 (by decide) ?_
                      refine g_callMl S hs (tX1_put l t D m0 m1 m2 cJ cI ((0 : Int32), u.2.1, u.2.2) r (1 : Int32) (kproduct (jX1_size (u.2.1 a.toNatClampNeg)) (jX1_size (u.2.1 b.toNatClampNeg))) (3 : Int32) (out_in (by assumption))) rfl ml_X1_43 im_yX1_put se_yX1_put cd_yX1_put hd_yX1_put ⟨by decide, by decide⟩ hE hS hA hP hK hD hl.1 rfl (Nat.le_of_ble_eq_true rfl) ⟨by decide, by decide⟩ dX1_reckon_188 (fun r_28 u_28 H locs hr_28 hP hD hS => ?_)
                      obtain ⟨rfl, rfl⟩ := hr_28
                      exact W.lret (v := (kput ((0 : Int32), u.2.1, u.2.2) r (1 : Int32) (kproduct (jX1_size (u.2.1 a.toNatClampNeg)) (jX1_size (u.2.1 b.toNatClampNeg))) (3 : Int32)).1) hx hb hr (fun t9 ht9 hW9 => ⟨⟨(kput ((0 : Int32), u.2.1, u.2.2) r (1 : Int32) (kproduct (jX1_size (u.2.1 a.toNatClampNeg)) (jX1_size (u.2.1 b.toNatClampNeg))) (3 : Int32)).1, (kput ((0 : Int32), u.2.1, u.2.2) r (1 : Int32) (kproduct (jX1_size (u.2.1 a.toNatClampNeg)) (jX1_size (u.2.1 b.toNatClampNeg))) (3 : Int32)).2, rfl, (⟨by rw [kreckon, if_pos c_2, if_neg c_4, if_neg c_6, if_pos c_9, if_pos c_12, if_pos c_13, if_pos c_14, if_pos c_15, if_neg c_16, if_pos c_24], by rw [kreckon, if_pos c_2, if_neg c_4, if_neg c_6, if_pos c_9, if_pos c_12, if_pos c_13, if_pos c_14, if_pos c_15, if_neg c_16, if_pos c_24]⟩), by rw [ht9]; exact hP, va_K.moved hW9.alike hK, hD⟩, hS.F ht9⟩) hS.2.2 dX1_reckon_191 hlocks
                · refine lv_iconst (v := 1) hx hb dX1_reckon_137 (by decide) ?_
                  refine lv_goto (tgt := 142) hx hb dX1_reckon_138 (by decide) ?_
                  refine lv_lload hx hb dX1_reckon_142 (lv_at hl 0 rfl) ?_
                  refine lv_lconst (v := 0) hx hb dX1_reckon_144 (by decide) ?_
                  refine g_lc_ge (tgt := 153) hx hb dX1_reckon_145 dX1_reckon_146 (by decide) (fun c_29 => ?_) (fun c_29 => ?_)
                  · refine lv_iconst (v := 0) hx hb dX1_reckon_153 (by decide) ?_
                    refine lv_icmp_eq (tgt := 161) hx hb dX1_reckon_154 (by decide) (fun c_30 => absurd c_30 (by decide)) (fun c_30 => ?_)
                    refine lv_iconst (v := 1) hx hb dX1_reckon_157 (by decide) ?_
                    refine lv_goto (tgt := 162) hx hb dX1_reckon_158 (by decide) ?_
                    refine lv_istore (lv' := [(9, .int (1 : Int32)), (7, .long (u.2.1 b.toNatClampNeg)), (5, .long (u.2.1 a.toNatClampNeg)), (0, .ref m0), (1, .int r), (2, .int op), (3, .int a), (4, .int b)]) hx hb dX1_reckon_162 hl (by decide) rfl (fun ls hl => ?_)
                    refine lv_iload_n hx hb dX1_reckon_164 rfl (lv_at hl 5 rfl) ?_
                    refine lv_iconst (v := 2) hx hb dX1_reckon_165 (by decide) ?_
                    refine lv_icmp_ne (tgt := 192) hx hb dX1_reckon_166 (by decide) (fun c_31 => ?_) (fun c_31 => ?_)
                    · exact absurd (Int32.le_antisymm c_13 c_14) c_31
                    · refine lv_aload_n hx hb dX1_reckon_169 rfl (lv_at hl 3 rfl) ?_
                      refine lv_iload_n hx hb dX1_reckon_170 rfl (lv_at hl 4 rfl) ?_
                      refine lv_iload hx hb dX1_reckon_171 (lv_at hl 0 rfl) ?_
                      refine lv_aload_n hx hb dX1_reckon_173 rfl (lv_at hl 3 rfl) ?_
                      refine lv_lload hx hb dX1_reckon_174 (lv_at hl 2 rfl) ?_
                      refine g_callSl S hs (tX1_size l t (u.2.1 a.toNatClampNeg)) ml_X1_39 st_yX1_size in_X1 cd_yX1_size hd_yX1_size ⟨by decide, by decide⟩ hE hS hA hl.1 rfl (Nat.le_of_ble_eq_true rfl) ⟨by decide, by decide⟩ dX1_reckon_176 (fun r_32 hr_32 => ?_)
                      subst hr_32
                      refine lv_lload hx hb dX1_reckon_179 (lv_at hl 1 rfl) ?_
                      refine g_callSl S hs (tX1_size l t (u.2.1 b.toNatClampNeg)) ml_X1_39 st_yX1_size in_X1 cd_yX1_size hd_yX1_size ⟨by decide, by decide⟩ hE hS hA hl.1 rfl (Nat.le_of_ble_eq_true rfl) ⟨by decide, by decide⟩ dX1_reckon_181 (fun r_33 hr_33 => ?_)
                      subst hr_33
                      refine g_callPl S hs (tX1_product l m0 (jX1_size (u.2.1 a.toNatClampNeg)) (jX1_size (u.2.1 b.toNatClampNeg))) (va_recv hK hP (ci := 1) (q0 := 0) rfl rfl) ml_X1_47 im_yX1_product se_yX1_product in_X1 cd_yX1_product hd_yX1_product ⟨by decide, by decide⟩ hl.1 rfl (Nat.le_of_ble_eq_true rfl) ⟨by decide, by decide⟩ dX1_reckon_184 (fun r_34 hr_34 => ?_)
                      subst hr_34
                      refine lv_iconst (v := 3) hx hb dX1_reckon_187 (by decide) ?_
                      refine g_callMl S hs (tX1_put l t D m0 m1 m2 cJ cI ((0 : Int32), u.2.1, u.2.2) r (1 : Int32) (kproduct (jX1_size (u.2.1 a.toNatClampNeg)) (jX1_size (u.2.1 b.toNatClampNeg))) (3 : Int32) (out_in (by assumption))) rfl ml_X1_43 im_yX1_put se_yX1_put cd_yX1_put hd_yX1_put ⟨by decide, by decide⟩ hE hS hA hP hK hD hl.1 rfl (Nat.le_of_ble_eq_true rfl) ⟨by decide, by decide⟩ dX1_reckon_188 (fun r_35 u_35 H locs hr_35 hP hD hS => ?_)
                      obtain ⟨rfl, rfl⟩ := hr_35
                      exact W.lret (v := (kput ((0 : Int32), u.2.1, u.2.2) r (1 : Int32) (kproduct (jX1_size (u.2.1 a.toNatClampNeg)) (jX1_size (u.2.1 b.toNatClampNeg))) (3 : Int32)).1) hx hb hr (fun t9 ht9 hW9 => ⟨⟨(kput ((0 : Int32), u.2.1, u.2.2) r (1 : Int32) (kproduct (jX1_size (u.2.1 a.toNatClampNeg)) (jX1_size (u.2.1 b.toNatClampNeg))) (3 : Int32)).1, (kput ((0 : Int32), u.2.1, u.2.2) r (1 : Int32) (kproduct (jX1_size (u.2.1 a.toNatClampNeg)) (jX1_size (u.2.1 b.toNatClampNeg))) (3 : Int32)).2, rfl, (⟨by rw [kreckon, if_pos c_2, if_neg c_4, if_neg c_6, if_pos c_9, if_pos c_12, if_pos c_13, if_pos c_14, if_neg c_15, if_pos c_29, if_pos c_31], by rw [kreckon, if_pos c_2, if_neg c_4, if_neg c_6, if_pos c_9, if_pos c_12, if_pos c_13, if_pos c_14, if_neg c_15, if_pos c_29, if_pos c_31]⟩), by rw [ht9]; exact hP, va_K.moved hW9.alike hK, hD⟩, hS.F ht9⟩) hS.2.2 dX1_reckon_191 hlocks
                  · refine lv_iconst (v := 1) hx hb dX1_reckon_149 (by decide) ?_
                    refine lv_goto (tgt := 154) hx hb dX1_reckon_150 (by decide) ?_
                    refine lv_icmp_eq (tgt := 161) hx hb dX1_reckon_154 (by decide) (fun c_36 => ?_) (fun c_36 => absurd c_36 (by decide))
                    refine lv_iconst (v := 0) hx hb dX1_reckon_161 (by decide) ?_
                    refine lv_istore (lv' := [(9, .int (0 : Int32)), (7, .long (u.2.1 b.toNatClampNeg)), (5, .long (u.2.1 a.toNatClampNeg)), (0, .ref m0), (1, .int r), (2, .int op), (3, .int a), (4, .int b)]) hx hb dX1_reckon_162 hl (by decide) rfl (fun ls hl => ?_)
                    refine lv_iload_n hx hb dX1_reckon_164 rfl (lv_at hl 5 rfl) ?_
                    refine lv_iconst (v := 2) hx hb dX1_reckon_165 (by decide) ?_
                    refine lv_icmp_ne (tgt := 192) hx hb dX1_reckon_166 (by decide) (fun c_37 => ?_) (fun c_37 => ?_)
                    · exact absurd (Int32.le_antisymm c_13 c_14) c_37
                    · refine lv_aload_n hx hb dX1_reckon_169 rfl (lv_at hl 3 rfl) ?_
                      refine lv_iload_n hx hb dX1_reckon_170 rfl (lv_at hl 4 rfl) ?_
                      refine lv_iload hx hb dX1_reckon_171 (lv_at hl 0 rfl) ?_
                      refine lv_aload_n hx hb dX1_reckon_173 rfl (lv_at hl 3 rfl) ?_
                      refine lv_lload hx hb dX1_reckon_174 (lv_at hl 2 rfl) ?_
                      refine g_callSl S hs (tX1_size l t (u.2.1 a.toNatClampNeg)) ml_X1_39 st_yX1_size in_X1 cd_yX1_size hd_yX1_size ⟨by decide, by decide⟩ hE hS hA hl.1 rfl (Nat.le_of_ble_eq_true rfl) ⟨by decide, by decide⟩ dX1_reckon_176 (fun r_38 hr_38 => ?_)
                      subst hr_38
                      refine lv_lload hx hb dX1_reckon_179 (lv_at hl 1 rfl) ?_
                      refine g_callSl S hs (tX1_size l t (u.2.1 b.toNatClampNeg)) ml_X1_39 st_yX1_size in_X1 cd_yX1_size hd_yX1_size ⟨by decide, by decide⟩ hE hS hA hl.1 rfl (Nat.le_of_ble_eq_true rfl) ⟨by decide, by decide⟩ dX1_reckon_181 (fun r_39 hr_39 => ?_)
                      subst hr_39
                      refine g_callPl S hs (tX1_product l m0 (jX1_size (u.2.1 a.toNatClampNeg)) (jX1_size (u.2.1 b.toNatClampNeg))) (va_recv hK hP (ci := 1) (q0 := 0) rfl rfl) ml_X1_47 im_yX1_product se_yX1_product in_X1 cd_yX1_product hd_yX1_product ⟨by decide, by decide⟩ hl.1 rfl (Nat.le_of_ble_eq_true rfl) ⟨by decide, by decide⟩ dX1_reckon_184 (fun r_40 hr_40 => ?_)
                      subst hr_40
                      refine lv_iconst (v := 3) hx hb dX1_reckon_187 (by decide) ?_
                      refine g_callMl S hs (tX1_put l t D m0 m1 m2 cJ cI ((0 : Int32), u.2.1, u.2.2) r (0 : Int32) (kproduct (jX1_size (u.2.1 a.toNatClampNeg)) (jX1_size (u.2.1 b.toNatClampNeg))) (3 : Int32) (out_in (by assumption))) rfl ml_X1_43 im_yX1_put se_yX1_put cd_yX1_put hd_yX1_put ⟨by decide, by decide⟩ hE hS hA hP hK hD hl.1 rfl (Nat.le_of_ble_eq_true rfl) ⟨by decide, by decide⟩ dX1_reckon_188 (fun r_41 u_41 H locs hr_41 hP hD hS => ?_)
                      obtain ⟨rfl, rfl⟩ := hr_41
                      exact W.lret (v := (kput ((0 : Int32), u.2.1, u.2.2) r (0 : Int32) (kproduct (jX1_size (u.2.1 a.toNatClampNeg)) (jX1_size (u.2.1 b.toNatClampNeg))) (3 : Int32)).1) hx hb hr (fun t9 ht9 hW9 => ⟨⟨(kput ((0 : Int32), u.2.1, u.2.2) r (0 : Int32) (kproduct (jX1_size (u.2.1 a.toNatClampNeg)) (jX1_size (u.2.1 b.toNatClampNeg))) (3 : Int32)).1, (kput ((0 : Int32), u.2.1, u.2.2) r (0 : Int32) (kproduct (jX1_size (u.2.1 a.toNatClampNeg)) (jX1_size (u.2.1 b.toNatClampNeg))) (3 : Int32)).2, rfl, (⟨by rw [kreckon, if_pos c_2, if_neg c_4, if_neg c_6, if_pos c_9, if_pos c_12, if_pos c_13, if_pos c_14, if_neg c_15, if_neg c_29, if_pos c_37], by rw [kreckon, if_pos c_2, if_neg c_4, if_neg c_6, if_pos c_9, if_pos c_12, if_pos c_13, if_pos c_14, if_neg c_15, if_neg c_29, if_pos c_37]⟩), by rw [ht9]; exact hP, va_K.moved hW9.alike hK, hD⟩, hS.F ht9⟩) hS.2.2 dX1_reckon_191 hlocks
              · refine lv_iload_n hx hb dX1_reckon_87 rfl (lv_at hl 4 rfl) ?_
                refine lv_if_ne (tgt := 99) hx hb dX1_reckon_88 (by decide) (fun c_42 => ?_) (fun c_42 => ?_)
                · refine lv_lload hx hb dX1_reckon_99 (lv_at hl 1 rfl) ?_
                  refine lv_lload hx hb dX1_reckon_101 (lv_at hl 0 rfl) ?_
                  refine lv_lsub hx hb dX1_reckon_103 ?_
                  refine lv_lstore (lv' := [(9, .long ((u.2.1 a.toNatClampNeg) - (u.2.1 b.toNatClampNeg))), (7, .long (u.2.1 b.toNatClampNeg)), (5, .long (u.2.1 a.toNatClampNeg)), (0, .ref m0), (1, .int r), (2, .int op), (3, .int a), (4, .int b)]) hx hb dX1_reckon_104 hl (by decide) rfl (fun ls hl => ?_)
                  refine lv_aload_n hx hb dX1_reckon_106 rfl (lv_at hl 3 rfl) ?_
                  refine lv_iload_n hx hb dX1_reckon_107 rfl (lv_at hl 4 rfl) ?_
                  refine lv_lload hx hb dX1_reckon_108 (lv_at hl 0 rfl) ?_
                  refine lv_lconst (v := 0) hx hb dX1_reckon_110 (by decide) ?_
                  refine g_lc_ge (tgt := 119) hx hb dX1_reckon_111 dX1_reckon_112 (by decide) (fun c_43 => ?_) (fun c_43 => ?_)
                  · refine lv_iconst (v := 0) hx hb dX1_reckon_119 (by decide) ?_
                    refine lv_lload hx hb dX1_reckon_120 (lv_at hl 0 rfl) ?_
                    refine g_callSl S hs (tX1_size l t ((u.2.1 a.toNatClampNeg) - (u.2.1 b.toNatClampNeg))) ml_X1_39 st_yX1_size in_X1 cd_yX1_size hd_yX1_size ⟨by decide, by decide⟩ hE hS hA hl.1 rfl (Nat.le_of_ble_eq_true rfl) ⟨by decide, by decide⟩ dX1_reckon_122 (fun r_44 hr_44 => ?_)
                    subst hr_44
                    refine lv_iconst (v := 3) hx hb dX1_reckon_125 (by decide) ?_
                    refine g_callMl S hs (tX1_put l t D m0 m1 m2 cJ cI ((0 : Int32), u.2.1, u.2.2) r (0 : Int32) (jX1_size ((u.2.1 a.toNatClampNeg) - (u.2.1 b.toNatClampNeg))) (3 : Int32) (out_in (by assumption))) rfl ml_X1_43 im_yX1_put se_yX1_put cd_yX1_put hd_yX1_put ⟨by decide, by decide⟩ hE hS hA hP hK hD hl.1 rfl (Nat.le_of_ble_eq_true rfl) ⟨by decide, by decide⟩ dX1_reckon_126 (fun r_45 u_45 H locs hr_45 hP hD hS => ?_)
                    obtain ⟨rfl, rfl⟩ := hr_45
                    exact W.lret (v := (kput ((0 : Int32), u.2.1, u.2.2) r (0 : Int32) (jX1_size ((u.2.1 a.toNatClampNeg) - (u.2.1 b.toNatClampNeg))) (3 : Int32)).1) hx hb hr (fun t9 ht9 hW9 => ⟨⟨(kput ((0 : Int32), u.2.1, u.2.2) r (0 : Int32) (jX1_size ((u.2.1 a.toNatClampNeg) - (u.2.1 b.toNatClampNeg))) (3 : Int32)).1, (kput ((0 : Int32), u.2.1, u.2.2) r (0 : Int32) (jX1_size ((u.2.1 a.toNatClampNeg) - (u.2.1 b.toNatClampNeg))) (3 : Int32)).2, rfl, (⟨by rw [kreckon, if_pos c_2, if_neg c_4, if_neg c_6, if_pos c_9, if_pos c_12, if_pos c_13, if_neg c_14, if_neg c_42, if_pos c_43], by rw [kreckon, if_pos c_2, if_neg c_4, if_neg c_6, if_pos c_9, if_pos c_12, if_pos c_13, if_neg c_14, if_neg c_42, if_pos c_43]⟩), by rw [ht9]; exact hP, va_K.moved hW9.alike hK, hD⟩, hS.F ht9⟩) hS.2.2 dX1_reckon_129 hlocks
                  · refine lv_iconst (v := 1) hx hb dX1_reckon_115 (by decide) ?_
                    refine lv_goto (tgt := 120) hx hb dX1_reckon_116 (by decide) ?_
                    refine lv_lload hx hb dX1_reckon_120 (lv_at hl 0 rfl) ?_
                    refine g_callSl S hs (tX1_size l t ((u.2.1 a.toNatClampNeg) - (u.2.1 b.toNatClampNeg))) ml_X1_39 st_yX1_size in_X1 cd_yX1_size hd_yX1_size ⟨by decide, by decide⟩ hE hS hA hl.1 rfl (Nat.le_of_ble_eq_true rfl) ⟨by decide, by decide⟩ dX1_reckon_122 (fun r_46 hr_46 => ?_)
                    subst hr_46
                    refine lv_iconst (v := 3) hx hb dX1_reckon_125 (by decide) ?_
                    refine g_callMl S hs (tX1_put l t D m0 m1 m2 cJ cI ((0 : Int32), u.2.1, u.2.2) r (1 : Int32) (jX1_size ((u.2.1 a.toNatClampNeg) - (u.2.1 b.toNatClampNeg))) (3 : Int32) (out_in (by assumption))) rfl ml_X1_43 im_yX1_put se_yX1_put cd_yX1_put hd_yX1_put ⟨by decide, by decide⟩ hE hS hA hP hK hD hl.1 rfl (Nat.le_of_ble_eq_true rfl) ⟨by decide, by decide⟩ dX1_reckon_126 (fun r_47 u_47 H locs hr_47 hP hD hS => ?_)
                    obtain ⟨rfl, rfl⟩ := hr_47
                    exact W.lret (v := (kput ((0 : Int32), u.2.1, u.2.2) r (1 : Int32) (jX1_size ((u.2.1 a.toNatClampNeg) - (u.2.1 b.toNatClampNeg))) (3 : Int32)).1) hx hb hr (fun t9 ht9 hW9 => ⟨⟨(kput ((0 : Int32), u.2.1, u.2.2) r (1 : Int32) (jX1_size ((u.2.1 a.toNatClampNeg) - (u.2.1 b.toNatClampNeg))) (3 : Int32)).1, (kput ((0 : Int32), u.2.1, u.2.2) r (1 : Int32) (jX1_size ((u.2.1 a.toNatClampNeg) - (u.2.1 b.toNatClampNeg))) (3 : Int32)).2, rfl, (⟨by rw [kreckon, if_pos c_2, if_neg c_4, if_neg c_6, if_pos c_9, if_pos c_12, if_pos c_13, if_neg c_14, if_neg c_42, if_neg c_43], by rw [kreckon, if_pos c_2, if_neg c_4, if_neg c_6, if_pos c_9, if_pos c_12, if_pos c_13, if_neg c_14, if_neg c_42, if_neg c_43]⟩), by rw [ht9]; exact hP, va_K.moved hW9.alike hK, hD⟩, hS.F ht9⟩) hS.2.2 dX1_reckon_129 hlocks
                · refine lv_lload hx hb dX1_reckon_91 (lv_at hl 1 rfl) ?_
                  refine lv_lload hx hb dX1_reckon_93 (lv_at hl 0 rfl) ?_
                  refine lv_ladd hx hb dX1_reckon_95 ?_
                  refine lv_goto (tgt := 104) hx hb dX1_reckon_96 (by decide) ?_
                  refine lv_lstore (lv' := [(9, .long ((u.2.1 a.toNatClampNeg) + (u.2.1 b.toNatClampNeg))), (7, .long (u.2.1 b.toNatClampNeg)), (5, .long (u.2.1 a.toNatClampNeg)), (0, .ref m0), (1, .int r), (2, .int op), (3, .int a), (4, .int b)]) hx hb dX1_reckon_104 hl (by decide) rfl (fun ls hl => ?_)
                  refine lv_aload_n hx hb dX1_reckon_106 rfl (lv_at hl 3 rfl) ?_
                  refine lv_iload_n hx hb dX1_reckon_107 rfl (lv_at hl 4 rfl) ?_
                  refine lv_lload hx hb dX1_reckon_108 (lv_at hl 0 rfl) ?_
                  refine lv_lconst (v := 0) hx hb dX1_reckon_110 (by decide) ?_
                  refine g_lc_ge (tgt := 119) hx hb dX1_reckon_111 dX1_reckon_112 (by decide) (fun c_48 => ?_) (fun c_48 => ?_)
                  · refine lv_iconst (v := 0) hx hb dX1_reckon_119 (by decide) ?_
                    refine lv_lload hx hb dX1_reckon_120 (lv_at hl 0 rfl) ?_
                    refine g_callSl S hs (tX1_size l t ((u.2.1 a.toNatClampNeg) + (u.2.1 b.toNatClampNeg))) ml_X1_39 st_yX1_size in_X1 cd_yX1_size hd_yX1_size ⟨by decide, by decide⟩ hE hS hA hl.1 rfl (Nat.le_of_ble_eq_true rfl) ⟨by decide, by decide⟩ dX1_reckon_122 (fun r_49 hr_49 => ?_)
                    subst hr_49
                    refine lv_iconst (v := 3) hx hb dX1_reckon_125 (by decide) ?_
                    refine g_callMl S hs (tX1_put l t D m0 m1 m2 cJ cI ((0 : Int32), u.2.1, u.2.2) r (0 : Int32) (jX1_size ((u.2.1 a.toNatClampNeg) + (u.2.1 b.toNatClampNeg))) (3 : Int32) (out_in (by assumption))) rfl ml_X1_43 im_yX1_put se_yX1_put cd_yX1_put hd_yX1_put ⟨by decide, by decide⟩ hE hS hA hP hK hD hl.1 rfl (Nat.le_of_ble_eq_true rfl) ⟨by decide, by decide⟩ dX1_reckon_126 (fun r_50 u_50 H locs hr_50 hP hD hS => ?_)
                    obtain ⟨rfl, rfl⟩ := hr_50
                    exact W.lret (v := (kput ((0 : Int32), u.2.1, u.2.2) r (0 : Int32) (jX1_size ((u.2.1 a.toNatClampNeg) + (u.2.1 b.toNatClampNeg))) (3 : Int32)).1) hx hb hr (fun t9 ht9 hW9 => ⟨⟨(kput ((0 : Int32), u.2.1, u.2.2) r (0 : Int32) (jX1_size ((u.2.1 a.toNatClampNeg) + (u.2.1 b.toNatClampNeg))) (3 : Int32)).1, (kput ((0 : Int32), u.2.1, u.2.2) r (0 : Int32) (jX1_size ((u.2.1 a.toNatClampNeg) + (u.2.1 b.toNatClampNeg))) (3 : Int32)).2, rfl, (⟨by rw [kreckon, if_pos c_2, if_neg c_4, if_neg c_6, if_pos c_9, if_pos c_12, if_pos c_13, if_neg c_14, if_pos c_42, if_pos c_48], by rw [kreckon, if_pos c_2, if_neg c_4, if_neg c_6, if_pos c_9, if_pos c_12, if_pos c_13, if_neg c_14, if_pos c_42, if_pos c_48]⟩), by rw [ht9]; exact hP, va_K.moved hW9.alike hK, hD⟩, hS.F ht9⟩) hS.2.2 dX1_reckon_129 hlocks
                  · refine lv_iconst (v := 1) hx hb dX1_reckon_115 (by decide) ?_
                    refine lv_goto (tgt := 120) hx hb dX1_reckon_116 (by decide) ?_
                    refine lv_lload hx hb dX1_reckon_120 (lv_at hl 0 rfl) ?_
                    refine g_callSl S hs (tX1_size l t ((u.2.1 a.toNatClampNeg) + (u.2.1 b.toNatClampNeg))) ml_X1_39 st_yX1_size in_X1 cd_yX1_size hd_yX1_size ⟨by decide, by decide⟩ hE hS hA hl.1 rfl (Nat.le_of_ble_eq_true rfl) ⟨by decide, by decide⟩ dX1_reckon_122 (fun r_51 hr_51 => ?_)
                    subst hr_51
                    refine lv_iconst (v := 3) hx hb dX1_reckon_125 (by decide) ?_
                    refine g_callMl S hs (tX1_put l t D m0 m1 m2 cJ cI ((0 : Int32), u.2.1, u.2.2) r (1 : Int32) (jX1_size ((u.2.1 a.toNatClampNeg) + (u.2.1 b.toNatClampNeg))) (3 : Int32) (out_in (by assumption))) rfl ml_X1_43 im_yX1_put se_yX1_put cd_yX1_put hd_yX1_put ⟨by decide, by decide⟩ hE hS hA hP hK hD hl.1 rfl (Nat.le_of_ble_eq_true rfl) ⟨by decide, by decide⟩ dX1_reckon_126 (fun r_52 u_52 H locs hr_52 hP hD hS => ?_)
                    obtain ⟨rfl, rfl⟩ := hr_52
                    exact W.lret (v := (kput ((0 : Int32), u.2.1, u.2.2) r (1 : Int32) (jX1_size ((u.2.1 a.toNatClampNeg) + (u.2.1 b.toNatClampNeg))) (3 : Int32)).1) hx hb hr (fun t9 ht9 hW9 => ⟨⟨(kput ((0 : Int32), u.2.1, u.2.2) r (1 : Int32) (jX1_size ((u.2.1 a.toNatClampNeg) + (u.2.1 b.toNatClampNeg))) (3 : Int32)).1, (kput ((0 : Int32), u.2.1, u.2.2) r (1 : Int32) (jX1_size ((u.2.1 a.toNatClampNeg) + (u.2.1 b.toNatClampNeg))) (3 : Int32)).2, rfl, (⟨by rw [kreckon, if_pos c_2, if_neg c_4, if_neg c_6, if_pos c_9, if_pos c_12, if_pos c_13, if_neg c_14, if_pos c_42, if_neg c_48], by rw [kreckon, if_pos c_2, if_neg c_4, if_neg c_6, if_pos c_9, if_pos c_12, if_pos c_13, if_neg c_14, if_pos c_42, if_neg c_48]⟩), by rw [ht9]; exact hP, va_K.moved hW9.alike hK, hD⟩, hS.F ht9⟩) hS.2.2 dX1_reckon_129 hlocks
            · refine lv_lload hx hb dX1_reckon_68 (lv_at hl 0 rfl) ?_
              refine lv_lconst (v := 0) hx hb dX1_reckon_70 (by decide) ?_
              refine g_lc_ne (tgt := 82) hx hb dX1_reckon_71 dX1_reckon_72 (by decide) (fun c_53 => ?_) (fun c_53 => ?_)
              · refine lv_iload_n hx hb dX1_reckon_82 rfl (lv_at hl 4 rfl) ?_
                refine lv_iconst (v := 2) hx hb dX1_reckon_83 (by decide) ?_
                refine lv_icmp_ge (tgt := 130) hx hb dX1_reckon_84 (by decide) (fun c_54 => ?_) (fun c_54 => ?_)
                · refine lv_lload hx hb dX1_reckon_130 (lv_at hl 1 rfl) ?_
                  refine lv_lconst (v := 0) hx hb dX1_reckon_132 (by decide) ?_
                  refine g_lc_ge (tgt := 141) hx hb dX1_reckon_133 dX1_reckon_134 (by decide) (fun c_55 => ?_) (fun c_55 => ?_)
                  · refine lv_iconst (v := 0) hx hb dX1_reckon_141 (by decide) ?_
                    refine lv_lload hx hb dX1_reckon_142 (lv_at hl 0 rfl) ?_
                    refine lv_lconst (v := 0) hx hb dX1_reckon_144 (by decide) ?_
                    refine g_lc_ge (tgt := 153) hx hb dX1_reckon_145 dX1_reckon_146 (by decide) (fun c_56 => ?_) (fun c_56 => ?_)
                    · refine lv_iconst (v := 0) hx hb dX1_reckon_153 (by decide) ?_
                      refine lv_icmp_eq (tgt := 161) hx hb dX1_reckon_154 (by decide) (fun c_57 => ?_) (fun c_57 => absurd c_57 (by decide))
                      refine lv_iconst (v := 0) hx hb dX1_reckon_161 (by decide) ?_
                      refine lv_istore (lv' := [(9, .int (0 : Int32)), (7, .long (u.2.1 b.toNatClampNeg)), (5, .long (u.2.1 a.toNatClampNeg)), (0, .ref m0), (1, .int r), (2, .int op), (3, .int a), (4, .int b)]) hx hb dX1_reckon_162 hl (by decide) rfl (fun ls hl => ?_)
                      refine lv_iload_n hx hb dX1_reckon_164 rfl (lv_at hl 5 rfl) ?_
                      refine lv_iconst (v := 2) hx hb dX1_reckon_165 (by decide) ?_
                      refine lv_icmp_ne (tgt := 192) hx hb dX1_reckon_166 (by decide) (fun c_58 => ?_) (fun c_58 => ?_)
                      · refine lv_iload_n hx hb dX1_reckon_192 rfl (lv_at hl 5 rfl) ?_
                        refine lv_iconst (v := 3) hx hb dX1_reckon_193 (by decide) ?_
                        refine lv_icmp_ne (tgt := 220) hx hb dX1_reckon_194 (by decide) (fun c_59 => ?_) (fun c_59 => ?_)
                        · refine lv_lload hx hb dX1_reckon_220 (lv_at hl 2 rfl) ?_
                          refine g_callSl S hs (tX1_size l t (u.2.1 a.toNatClampNeg)) ml_X1_39 st_yX1_size in_X1 cd_yX1_size hd_yX1_size ⟨by decide, by decide⟩ hE hS hA hl.1 rfl (Nat.le_of_ble_eq_true rfl) ⟨by decide, by decide⟩ dX1_reckon_222 (fun r_60 hr_60 => ?_)
                          subst hr_60
                          refine lv_lload hx hb dX1_reckon_225 (lv_at hl 1 rfl) ?_
                          refine g_callSl S hs (tX1_size l t (u.2.1 b.toNatClampNeg)) ml_X1_39 st_yX1_size in_X1 cd_yX1_size hd_yX1_size ⟨by decide, by decide⟩ hE hS hA hl.1 rfl (Nat.le_of_ble_eq_true rfl) ⟨by decide, by decide⟩ dX1_reckon_227 (fun r_61 hr_61 => ?_)
                          subst hr_61
                          refine lv_lrem hx hb dX1_reckon_230 (ksize_ne (by assumption)) ?_
                          refine lv_lstore (lv' := [(10, .long ((jX1_size (u.2.1 a.toNatClampNeg)) - (jX1_size (u.2.1 a.toNatClampNeg)) / (jX1_size (u.2.1 b.toNatClampNeg)) * (jX1_size (u.2.1 b.toNatClampNeg)))), (9, .int (0 : Int32)), (7, .long (u.2.1 b.toNatClampNeg)), (5, .long (u.2.1 a.toNatClampNeg)), (0, .ref m0), (1, .int r), (2, .int op), (3, .int a), (4, .int b)]) hx hb dX1_reckon_231 hl (by decide) rfl (fun ls hl => ?_)
                          refine lv_lload hx hb dX1_reckon_233 (lv_at hl 0 rfl) ?_
                          refine lv_lconst (v := 0) hx hb dX1_reckon_235 (by decide) ?_
                          refine g_lc_le (tgt := 255) hx hb dX1_reckon_236 dX1_reckon_237 (by decide) (fun c_62 => ?_) (fun c_62 => ?_)
                          · refine lv_aload_n hx hb dX1_reckon_255 rfl (lv_at hl 4 rfl) ?_
                            refine lv_iload_n hx hb dX1_reckon_256 rfl (lv_at hl 5 rfl) ?_
                            refine lv_lload hx hb dX1_reckon_257 (lv_at hl 2 rfl) ?_
                            refine lv_lconst (v := 0) hx hb dX1_reckon_259 (by decide) ?_
                            refine g_lc_ge (tgt := 268) hx hb dX1_reckon_260 dX1_reckon_261 (by decide) (fun c_63 => ?_) (fun c_63 => absurd (c_56) c_63)
                            refine lv_iconst (v := 0) hx hb dX1_reckon_268 (by decide) ?_
                            refine lv_lload hx hb dX1_reckon_269 (lv_at hl 0 rfl) ?_
                            refine lv_iconst (v := 3) hx hb dX1_reckon_271 (by decide) ?_
                            refine g_callMl S hs (tX1_put l t D m0 m1 m2 cJ cI ((0 : Int32), u.2.1, u.2.2) r (0 : Int32) ((jX1_size (u.2.1 a.toNatClampNeg)) - (jX1_size (u.2.1 a.toNatClampNeg)) / (jX1_size (u.2.1 b.toNatClampNeg)) * (jX1_size (u.2.1 b.toNatClampNeg))) (3 : Int32) (out_in (by assumption))) rfl ml_X1_43 im_yX1_put se_yX1_put cd_yX1_put hd_yX1_put ⟨by decide, by decide⟩ hE hS hA hP hK hD hl.1 rfl (Nat.le_of_ble_eq_true rfl) ⟨by decide, by decide⟩ dX1_reckon_272 (fun r_64 u_64 H locs hr_64 hP hD hS => ?_)
                            obtain ⟨rfl, rfl⟩ := hr_64
                            exact W.lret (v := (kput ((0 : Int32), u.2.1, u.2.2) r (0 : Int32) ((jX1_size (u.2.1 a.toNatClampNeg)) - (jX1_size (u.2.1 a.toNatClampNeg)) / (jX1_size (u.2.1 b.toNatClampNeg)) * (jX1_size (u.2.1 b.toNatClampNeg))) (3 : Int32)).1) hx hb hr (fun t9 ht9 hW9 => ⟨⟨(kput ((0 : Int32), u.2.1, u.2.2) r (0 : Int32) ((jX1_size (u.2.1 a.toNatClampNeg)) - (jX1_size (u.2.1 a.toNatClampNeg)) / (jX1_size (u.2.1 b.toNatClampNeg)) * (jX1_size (u.2.1 b.toNatClampNeg))) (3 : Int32)).1, (kput ((0 : Int32), u.2.1, u.2.2) r (0 : Int32) ((jX1_size (u.2.1 a.toNatClampNeg)) - (jX1_size (u.2.1 a.toNatClampNeg)) / (jX1_size (u.2.1 b.toNatClampNeg)) * (jX1_size (u.2.1 b.toNatClampNeg))) (3 : Int32)).2, rfl, (⟨by rw [kreckon, if_pos c_2, if_neg c_4, if_neg c_6, if_pos c_9, if_pos c_12, if_neg c_13, if_neg c_53, if_pos c_54, if_pos c_55, if_pos c_56, if_neg c_58, if_neg c_59, if_pos c_62], by rw [kreckon, if_pos c_2, if_neg c_4, if_neg c_6, if_pos c_9, if_pos c_12, if_neg c_13, if_neg c_53, if_pos c_54, if_pos c_55, if_pos c_56, if_neg c_58, if_neg c_59, if_pos c_62]⟩), by rw [ht9]; exact hP, va_K.moved hW9.alike hK, hD⟩, hS.F ht9⟩) hS.2.2 dX1_reckon_275 hlocks
                          · refine lv_iload hx hb dX1_reckon_240 (lv_at hl 1 rfl) ?_
                            refine lv_if_eq (tgt := 255) hx hb dX1_reckon_242 (by decide) (fun c_65 => ?_) (fun c_65 => absurd c_65 (by decide))
                            refine lv_aload_n hx hb dX1_reckon_255 rfl (lv_at hl 4 rfl) ?_
                            refine lv_iload_n hx hb dX1_reckon_256 rfl (lv_at hl 5 rfl) ?_
                            refine lv_lload hx hb dX1_reckon_257 (lv_at hl 2 rfl) ?_
                            refine lv_lconst (v := 0) hx hb dX1_reckon_259 (by decide) ?_
                            refine g_lc_ge (tgt := 268) hx hb dX1_reckon_260 dX1_reckon_261 (by decide) (fun c_66 => ?_) (fun c_66 => absurd (c_56) c_66)
                            refine lv_iconst (v := 0) hx hb dX1_reckon_268 (by decide) ?_
                            refine lv_lload hx hb dX1_reckon_269 (lv_at hl 0 rfl) ?_
                            refine lv_iconst (v := 3) hx hb dX1_reckon_271 (by decide) ?_
                            refine g_callMl S hs (tX1_put l t D m0 m1 m2 cJ cI ((0 : Int32), u.2.1, u.2.2) r (0 : Int32) ((jX1_size (u.2.1 a.toNatClampNeg)) - (jX1_size (u.2.1 a.toNatClampNeg)) / (jX1_size (u.2.1 b.toNatClampNeg)) * (jX1_size (u.2.1 b.toNatClampNeg))) (3 : Int32) (out_in (by assumption))) rfl ml_X1_43 im_yX1_put se_yX1_put cd_yX1_put hd_yX1_put ⟨by decide, by decide⟩ hE hS hA hP hK hD hl.1 rfl (Nat.le_of_ble_eq_true rfl) ⟨by decide, by decide⟩ dX1_reckon_272 (fun r_67 u_67 H locs hr_67 hP hD hS => ?_)
                            obtain ⟨rfl, rfl⟩ := hr_67
                            exact W.lret (v := (kput ((0 : Int32), u.2.1, u.2.2) r (0 : Int32) ((jX1_size (u.2.1 a.toNatClampNeg)) - (jX1_size (u.2.1 a.toNatClampNeg)) / (jX1_size (u.2.1 b.toNatClampNeg)) * (jX1_size (u.2.1 b.toNatClampNeg))) (3 : Int32)).1) hx hb hr (fun t9 ht9 hW9 => ⟨⟨(kput ((0 : Int32), u.2.1, u.2.2) r (0 : Int32) ((jX1_size (u.2.1 a.toNatClampNeg)) - (jX1_size (u.2.1 a.toNatClampNeg)) / (jX1_size (u.2.1 b.toNatClampNeg)) * (jX1_size (u.2.1 b.toNatClampNeg))) (3 : Int32)).1, (kput ((0 : Int32), u.2.1, u.2.2) r (0 : Int32) ((jX1_size (u.2.1 a.toNatClampNeg)) - (jX1_size (u.2.1 a.toNatClampNeg)) / (jX1_size (u.2.1 b.toNatClampNeg)) * (jX1_size (u.2.1 b.toNatClampNeg))) (3 : Int32)).2, rfl, (⟨by rw [kreckon, if_pos c_2, if_neg c_4, if_neg c_6, if_pos c_9, if_pos c_12, if_neg c_13, if_neg c_53, if_pos c_54, if_pos c_55, if_pos c_56, if_neg c_58, if_neg c_59, if_neg c_62], by rw [kreckon, if_pos c_2, if_neg c_4, if_neg c_6, if_pos c_9, if_pos c_12, if_neg c_13, if_neg c_53, if_pos c_54, if_pos c_55, if_pos c_56, if_neg c_58, if_neg c_59, if_neg c_62]⟩), by rw [ht9]; exact hP, va_K.moved hW9.alike hK, hD⟩, hS.F ht9⟩) hS.2.2 dX1_reckon_275 hlocks
                        · refine lv_aload_n hx hb dX1_reckon_197 rfl (lv_at hl 3 rfl) ?_
                          refine lv_iload_n hx hb dX1_reckon_198 rfl (lv_at hl 4 rfl) ?_
                          refine lv_iload hx hb dX1_reckon_199 (lv_at hl 0 rfl) ?_
                          refine lv_aload_n hx hb dX1_reckon_201 rfl (lv_at hl 3 rfl) ?_
                          refine lv_lload hx hb dX1_reckon_202 (lv_at hl 2 rfl) ?_
                          refine g_callSl S hs (tX1_size l t (u.2.1 a.toNatClampNeg)) ml_X1_39 st_yX1_size in_X1 cd_yX1_size hd_yX1_size ⟨by decide, by decide⟩ hE hS hA hl.1 rfl (Nat.le_of_ble_eq_true rfl) ⟨by decide, by decide⟩ dX1_reckon_204 (fun r_68 hr_68 => ?_)
                          subst hr_68
                          refine lv_lload hx hb dX1_reckon_207 (lv_at hl 1 rfl) ?_
                          refine g_callSl S hs (tX1_size l t (u.2.1 b.toNatClampNeg)) ml_X1_39 st_yX1_size in_X1 cd_yX1_size hd_yX1_size ⟨by decide, by decide⟩ hE hS hA hl.1 rfl (Nat.le_of_ble_eq_true rfl) ⟨by decide, by decide⟩ dX1_reckon_209 (fun r_69 hr_69 => ?_)
                          subst hr_69
                          refine g_callPl S hs (tX1_quotient l m0 (jX1_size (u.2.1 a.toNatClampNeg)) (jX1_size (u.2.1 b.toNatClampNeg)) (ksize_ne (by assumption))) (va_recv hK hP (ci := 1) (q0 := 0) rfl rfl) ml_X1_51 im_yX1_quotient se_yX1_quotient in_X1 cd_yX1_quotient hd_yX1_quotient ⟨by decide, by decide⟩ hl.1 rfl (Nat.le_of_ble_eq_true rfl) ⟨by decide, by decide⟩ dX1_reckon_212 (fun r_70 hr_70 => ?_)
                          subst hr_70
                          refine lv_iconst (v := 3) hx hb dX1_reckon_215 (by decide) ?_
                          refine g_callMl S hs (tX1_put l t D m0 m1 m2 cJ cI ((0 : Int32), u.2.1, u.2.2) r (0 : Int32) (kquotient (jX1_size (u.2.1 a.toNatClampNeg)) (jX1_size (u.2.1 b.toNatClampNeg))) (3 : Int32) (out_in (by assumption))) rfl ml_X1_43 im_yX1_put se_yX1_put cd_yX1_put hd_yX1_put ⟨by decide, by decide⟩ hE hS hA hP hK hD hl.1 rfl (Nat.le_of_ble_eq_true rfl) ⟨by decide, by decide⟩ dX1_reckon_216 (fun r_71 u_71 H locs hr_71 hP hD hS => ?_)
                          obtain ⟨rfl, rfl⟩ := hr_71
                          exact W.lret (v := (kput ((0 : Int32), u.2.1, u.2.2) r (0 : Int32) (kquotient (jX1_size (u.2.1 a.toNatClampNeg)) (jX1_size (u.2.1 b.toNatClampNeg))) (3 : Int32)).1) hx hb hr (fun t9 ht9 hW9 => ⟨⟨(kput ((0 : Int32), u.2.1, u.2.2) r (0 : Int32) (kquotient (jX1_size (u.2.1 a.toNatClampNeg)) (jX1_size (u.2.1 b.toNatClampNeg))) (3 : Int32)).1, (kput ((0 : Int32), u.2.1, u.2.2) r (0 : Int32) (kquotient (jX1_size (u.2.1 a.toNatClampNeg)) (jX1_size (u.2.1 b.toNatClampNeg))) (3 : Int32)).2, rfl, (⟨by rw [kreckon, if_pos c_2, if_neg c_4, if_neg c_6, if_pos c_9, if_pos c_12, if_neg c_13, if_neg c_53, if_pos c_54, if_pos c_55, if_pos c_56, if_neg c_58, if_pos c_59], by rw [kreckon, if_pos c_2, if_neg c_4, if_neg c_6, if_pos c_9, if_pos c_12, if_neg c_13, if_neg c_53, if_pos c_54, if_pos c_55, if_pos c_56, if_neg c_58, if_pos c_59]⟩), by rw [ht9]; exact hP, va_K.moved hW9.alike hK, hD⟩, hS.F ht9⟩) hS.2.2 dX1_reckon_219 hlocks
                      · refine lv_aload_n hx hb dX1_reckon_169 rfl (lv_at hl 3 rfl) ?_
                        refine lv_iload_n hx hb dX1_reckon_170 rfl (lv_at hl 4 rfl) ?_
                        refine lv_iload hx hb dX1_reckon_171 (lv_at hl 0 rfl) ?_
                        refine lv_aload_n hx hb dX1_reckon_173 rfl (lv_at hl 3 rfl) ?_
                        refine lv_lload hx hb dX1_reckon_174 (lv_at hl 2 rfl) ?_
                        refine g_callSl S hs (tX1_size l t (u.2.1 a.toNatClampNeg)) ml_X1_39 st_yX1_size in_X1 cd_yX1_size hd_yX1_size ⟨by decide, by decide⟩ hE hS hA hl.1 rfl (Nat.le_of_ble_eq_true rfl) ⟨by decide, by decide⟩ dX1_reckon_176 (fun r_72 hr_72 => ?_)
                        subst hr_72
                        refine lv_lload hx hb dX1_reckon_179 (lv_at hl 1 rfl) ?_
                        refine g_callSl S hs (tX1_size l t (u.2.1 b.toNatClampNeg)) ml_X1_39 st_yX1_size in_X1 cd_yX1_size hd_yX1_size ⟨by decide, by decide⟩ hE hS hA hl.1 rfl (Nat.le_of_ble_eq_true rfl) ⟨by decide, by decide⟩ dX1_reckon_181 (fun r_73 hr_73 => ?_)
                        subst hr_73
                        refine g_callPl S hs (tX1_product l m0 (jX1_size (u.2.1 a.toNatClampNeg)) (jX1_size (u.2.1 b.toNatClampNeg))) (va_recv hK hP (ci := 1) (q0 := 0) rfl rfl) ml_X1_47 im_yX1_product se_yX1_product in_X1 cd_yX1_product hd_yX1_product ⟨by decide, by decide⟩ hl.1 rfl (Nat.le_of_ble_eq_true rfl) ⟨by decide, by decide⟩ dX1_reckon_184 (fun r_74 hr_74 => ?_)
                        subst hr_74
                        refine lv_iconst (v := 3) hx hb dX1_reckon_187 (by decide) ?_
                        refine g_callMl S hs (tX1_put l t D m0 m1 m2 cJ cI ((0 : Int32), u.2.1, u.2.2) r (0 : Int32) (kproduct (jX1_size (u.2.1 a.toNatClampNeg)) (jX1_size (u.2.1 b.toNatClampNeg))) (3 : Int32) (out_in (by assumption))) rfl ml_X1_43 im_yX1_put se_yX1_put cd_yX1_put hd_yX1_put ⟨by decide, by decide⟩ hE hS hA hP hK hD hl.1 rfl (Nat.le_of_ble_eq_true rfl) ⟨by decide, by decide⟩ dX1_reckon_188 (fun r_75 u_75 H locs hr_75 hP hD hS => ?_)
                        obtain ⟨rfl, rfl⟩ := hr_75
                        exact W.lret (v := (kput ((0 : Int32), u.2.1, u.2.2) r (0 : Int32) (kproduct (jX1_size (u.2.1 a.toNatClampNeg)) (jX1_size (u.2.1 b.toNatClampNeg))) (3 : Int32)).1) hx hb hr (fun t9 ht9 hW9 => ⟨⟨(kput ((0 : Int32), u.2.1, u.2.2) r (0 : Int32) (kproduct (jX1_size (u.2.1 a.toNatClampNeg)) (jX1_size (u.2.1 b.toNatClampNeg))) (3 : Int32)).1, (kput ((0 : Int32), u.2.1, u.2.2) r (0 : Int32) (kproduct (jX1_size (u.2.1 a.toNatClampNeg)) (jX1_size (u.2.1 b.toNatClampNeg))) (3 : Int32)).2, rfl, (⟨by rw [kreckon, if_pos c_2, if_neg c_4, if_neg c_6, if_pos c_9, if_pos c_12, if_neg c_13, if_neg c_53, if_pos c_54, if_pos c_55, if_pos c_56, if_pos c_58], by rw [kreckon, if_pos c_2, if_neg c_4, if_neg c_6, if_pos c_9, if_pos c_12, if_neg c_13, if_neg c_53, if_pos c_54, if_pos c_55, if_pos c_56, if_pos c_58]⟩), by rw [ht9]; exact hP, va_K.moved hW9.alike hK, hD⟩, hS.F ht9⟩) hS.2.2 dX1_reckon_191 hlocks
                    · refine lv_iconst (v := 1) hx hb dX1_reckon_149 (by decide) ?_
                      refine lv_goto (tgt := 154) hx hb dX1_reckon_150 (by decide) ?_
                      refine lv_icmp_eq (tgt := 161) hx hb dX1_reckon_154 (by decide) (fun c_76 => absurd c_76 (by decide)) (fun c_76 => ?_)
                      refine lv_iconst (v := 1) hx hb dX1_reckon_157 (by decide) ?_
                      refine lv_goto (tgt := 162) hx hb dX1_reckon_158 (by decide) ?_
                      refine lv_istore (lv' := [(9, .int (1 : Int32)), (7, .long (u.2.1 b.toNatClampNeg)), (5, .long (u.2.1 a.toNatClampNeg)), (0, .ref m0), (1, .int r), (2, .int op), (3, .int a), (4, .int b)]) hx hb dX1_reckon_162 hl (by decide) rfl (fun ls hl => ?_)
                      refine lv_iload_n hx hb dX1_reckon_164 rfl (lv_at hl 5 rfl) ?_
                      refine lv_iconst (v := 2) hx hb dX1_reckon_165 (by decide) ?_
                      refine lv_icmp_ne (tgt := 192) hx hb dX1_reckon_166 (by decide) (fun c_77 => ?_) (fun c_77 => ?_)
                      · refine lv_iload_n hx hb dX1_reckon_192 rfl (lv_at hl 5 rfl) ?_
                        refine lv_iconst (v := 3) hx hb dX1_reckon_193 (by decide) ?_
                        refine lv_icmp_ne (tgt := 220) hx hb dX1_reckon_194 (by decide) (fun c_78 => ?_) (fun c_78 => ?_)
                        · refine lv_lload hx hb dX1_reckon_220 (lv_at hl 2 rfl) ?_
                          refine g_callSl S hs (tX1_size l t (u.2.1 a.toNatClampNeg)) ml_X1_39 st_yX1_size in_X1 cd_yX1_size hd_yX1_size ⟨by decide, by decide⟩ hE hS hA hl.1 rfl (Nat.le_of_ble_eq_true rfl) ⟨by decide, by decide⟩ dX1_reckon_222 (fun r_79 hr_79 => ?_)
                          subst hr_79
                          refine lv_lload hx hb dX1_reckon_225 (lv_at hl 1 rfl) ?_
                          refine g_callSl S hs (tX1_size l t (u.2.1 b.toNatClampNeg)) ml_X1_39 st_yX1_size in_X1 cd_yX1_size hd_yX1_size ⟨by decide, by decide⟩ hE hS hA hl.1 rfl (Nat.le_of_ble_eq_true rfl) ⟨by decide, by decide⟩ dX1_reckon_227 (fun r_80 hr_80 => ?_)
                          subst hr_80
                          refine lv_lrem hx hb dX1_reckon_230 (ksize_ne (by assumption)) ?_
                          refine lv_lstore (lv' := [(10, .long ((jX1_size (u.2.1 a.toNatClampNeg)) - (jX1_size (u.2.1 a.toNatClampNeg)) / (jX1_size (u.2.1 b.toNatClampNeg)) * (jX1_size (u.2.1 b.toNatClampNeg)))), (9, .int (1 : Int32)), (7, .long (u.2.1 b.toNatClampNeg)), (5, .long (u.2.1 a.toNatClampNeg)), (0, .ref m0), (1, .int r), (2, .int op), (3, .int a), (4, .int b)]) hx hb dX1_reckon_231 hl (by decide) rfl (fun ls hl => ?_)
                          refine lv_lload hx hb dX1_reckon_233 (lv_at hl 0 rfl) ?_
                          refine lv_lconst (v := 0) hx hb dX1_reckon_235 (by decide) ?_
                          refine g_lc_le (tgt := 255) hx hb dX1_reckon_236 dX1_reckon_237 (by decide) (fun c_81 => ?_) (fun c_81 => ?_)
                          · refine lv_aload_n hx hb dX1_reckon_255 rfl (lv_at hl 4 rfl) ?_
                            refine lv_iload_n hx hb dX1_reckon_256 rfl (lv_at hl 5 rfl) ?_
                            refine lv_lload hx hb dX1_reckon_257 (lv_at hl 2 rfl) ?_
                            refine lv_lconst (v := 0) hx hb dX1_reckon_259 (by decide) ?_
                            refine g_lc_ge (tgt := 268) hx hb dX1_reckon_260 dX1_reckon_261 (by decide) (fun c_82 => absurd c_82 c_56) (fun c_82 => ?_)
                            refine lv_iconst (v := 1) hx hb dX1_reckon_264 (by decide) ?_
                            refine lv_goto (tgt := 269) hx hb dX1_reckon_265 (by decide) ?_
                            refine lv_lload hx hb dX1_reckon_269 (lv_at hl 0 rfl) ?_
                            refine lv_iconst (v := 3) hx hb dX1_reckon_271 (by decide) ?_
                            refine g_callMl S hs (tX1_put l t D m0 m1 m2 cJ cI ((0 : Int32), u.2.1, u.2.2) r (1 : Int32) ((jX1_size (u.2.1 a.toNatClampNeg)) - (jX1_size (u.2.1 a.toNatClampNeg)) / (jX1_size (u.2.1 b.toNatClampNeg)) * (jX1_size (u.2.1 b.toNatClampNeg))) (3 : Int32) (out_in (by assumption))) rfl ml_X1_43 im_yX1_put se_yX1_put cd_yX1_put hd_yX1_put ⟨by decide, by decide⟩ hE hS hA hP hK hD hl.1 rfl (Nat.le_of_ble_eq_true rfl) ⟨by decide, by decide⟩ dX1_reckon_272 (fun r_83 u_83 H locs hr_83 hP hD hS => ?_)
                            obtain ⟨rfl, rfl⟩ := hr_83
                            exact W.lret (v := (kput ((0 : Int32), u.2.1, u.2.2) r (1 : Int32) ((jX1_size (u.2.1 a.toNatClampNeg)) - (jX1_size (u.2.1 a.toNatClampNeg)) / (jX1_size (u.2.1 b.toNatClampNeg)) * (jX1_size (u.2.1 b.toNatClampNeg))) (3 : Int32)).1) hx hb hr (fun t9 ht9 hW9 => ⟨⟨(kput ((0 : Int32), u.2.1, u.2.2) r (1 : Int32) ((jX1_size (u.2.1 a.toNatClampNeg)) - (jX1_size (u.2.1 a.toNatClampNeg)) / (jX1_size (u.2.1 b.toNatClampNeg)) * (jX1_size (u.2.1 b.toNatClampNeg))) (3 : Int32)).1, (kput ((0 : Int32), u.2.1, u.2.2) r (1 : Int32) ((jX1_size (u.2.1 a.toNatClampNeg)) - (jX1_size (u.2.1 a.toNatClampNeg)) / (jX1_size (u.2.1 b.toNatClampNeg)) * (jX1_size (u.2.1 b.toNatClampNeg))) (3 : Int32)).2, rfl, (⟨by rw [kreckon, if_pos c_2, if_neg c_4, if_neg c_6, if_pos c_9, if_pos c_12, if_neg c_13, if_neg c_53, if_pos c_54, if_pos c_55, if_neg c_56, if_neg c_77, if_neg c_78, if_pos c_81], by rw [kreckon, if_pos c_2, if_neg c_4, if_neg c_6, if_pos c_9, if_pos c_12, if_neg c_13, if_neg c_53, if_pos c_54, if_pos c_55, if_neg c_56, if_neg c_77, if_neg c_78, if_pos c_81]⟩), by rw [ht9]; exact hP, va_K.moved hW9.alike hK, hD⟩, hS.F ht9⟩) hS.2.2 dX1_reckon_275 hlocks
                          · refine lv_iload hx hb dX1_reckon_240 (lv_at hl 1 rfl) ?_
                            refine lv_if_eq (tgt := 255) hx hb dX1_reckon_242 (by decide) (fun c_84 => absurd c_84 (by decide)) (fun c_84 => ?_)
                            refine lv_lload hx hb dX1_reckon_245 (lv_at hl 2 rfl) ?_
                            refine g_callSl S hs (tX1_size l t (u.2.1 b.toNatClampNeg)) ml_X1_39 st_yX1_size in_X1 cd_yX1_size hd_yX1_size ⟨by decide, by decide⟩ hE hS hA hl.1 rfl (Nat.le_of_ble_eq_true rfl) ⟨by decide, by decide⟩ dX1_reckon_247 (fun r_85 hr_85 => ?_)
                            subst hr_85
                            refine lv_lload hx hb dX1_reckon_250 (lv_at hl 0 rfl) ?_
                            refine lv_lsub hx hb dX1_reckon_252 ?_
                            refine lv_lstore (lv' := [(10, .long ((jX1_size (u.2.1 b.toNatClampNeg)) - ((jX1_size (u.2.1 a.toNatClampNeg)) - (jX1_size (u.2.1 a.toNatClampNeg)) / (jX1_size (u.2.1 b.toNatClampNeg)) * (jX1_size (u.2.1 b.toNatClampNeg))))), (9, .int (1 : Int32)), (7, .long (u.2.1 b.toNatClampNeg)), (5, .long (u.2.1 a.toNatClampNeg)), (0, .ref m0), (1, .int r), (2, .int op), (3, .int a), (4, .int b)]) hx hb dX1_reckon_253 hl (by decide) rfl (fun ls hl => ?_)
                            refine lv_aload_n hx hb dX1_reckon_255 rfl (lv_at hl 4 rfl) ?_
                            refine lv_iload_n hx hb dX1_reckon_256 rfl (lv_at hl 5 rfl) ?_
                            refine lv_lload hx hb dX1_reckon_257 (lv_at hl 2 rfl) ?_
                            refine lv_lconst (v := 0) hx hb dX1_reckon_259 (by decide) ?_
                            refine g_lc_ge (tgt := 268) hx hb dX1_reckon_260 dX1_reckon_261 (by decide) (fun c_86 => absurd c_86 c_56) (fun c_86 => ?_)
                            refine lv_iconst (v := 1) hx hb dX1_reckon_264 (by decide) ?_
                            refine lv_goto (tgt := 269) hx hb dX1_reckon_265 (by decide) ?_
                            refine lv_lload hx hb dX1_reckon_269 (lv_at hl 0 rfl) ?_
                            refine lv_iconst (v := 3) hx hb dX1_reckon_271 (by decide) ?_
                            refine g_callMl S hs (tX1_put l t D m0 m1 m2 cJ cI ((0 : Int32), u.2.1, u.2.2) r (1 : Int32) ((jX1_size (u.2.1 b.toNatClampNeg)) - ((jX1_size (u.2.1 a.toNatClampNeg)) - (jX1_size (u.2.1 a.toNatClampNeg)) / (jX1_size (u.2.1 b.toNatClampNeg)) * (jX1_size (u.2.1 b.toNatClampNeg)))) (3 : Int32) (out_in (by assumption))) rfl ml_X1_43 im_yX1_put se_yX1_put cd_yX1_put hd_yX1_put ⟨by decide, by decide⟩ hE hS hA hP hK hD hl.1 rfl (Nat.le_of_ble_eq_true rfl) ⟨by decide, by decide⟩ dX1_reckon_272 (fun r_87 u_87 H locs hr_87 hP hD hS => ?_)
                            obtain ⟨rfl, rfl⟩ := hr_87
                            exact W.lret (v := (kput ((0 : Int32), u.2.1, u.2.2) r (1 : Int32) ((jX1_size (u.2.1 b.toNatClampNeg)) - ((jX1_size (u.2.1 a.toNatClampNeg)) - (jX1_size (u.2.1 a.toNatClampNeg)) / (jX1_size (u.2.1 b.toNatClampNeg)) * (jX1_size (u.2.1 b.toNatClampNeg)))) (3 : Int32)).1) hx hb hr (fun t9 ht9 hW9 => ⟨⟨(kput ((0 : Int32), u.2.1, u.2.2) r (1 : Int32) ((jX1_size (u.2.1 b.toNatClampNeg)) - ((jX1_size (u.2.1 a.toNatClampNeg)) - (jX1_size (u.2.1 a.toNatClampNeg)) / (jX1_size (u.2.1 b.toNatClampNeg)) * (jX1_size (u.2.1 b.toNatClampNeg)))) (3 : Int32)).1, (kput ((0 : Int32), u.2.1, u.2.2) r (1 : Int32) ((jX1_size (u.2.1 b.toNatClampNeg)) - ((jX1_size (u.2.1 a.toNatClampNeg)) - (jX1_size (u.2.1 a.toNatClampNeg)) / (jX1_size (u.2.1 b.toNatClampNeg)) * (jX1_size (u.2.1 b.toNatClampNeg)))) (3 : Int32)).2, rfl, (⟨by rw [kreckon, if_pos c_2, if_neg c_4, if_neg c_6, if_pos c_9, if_pos c_12, if_neg c_13, if_neg c_53, if_pos c_54, if_pos c_55, if_neg c_56, if_neg c_77, if_neg c_78, if_neg c_81], by rw [kreckon, if_pos c_2, if_neg c_4, if_neg c_6, if_pos c_9, if_pos c_12, if_neg c_13, if_neg c_53, if_pos c_54, if_pos c_55, if_neg c_56, if_neg c_77, if_neg c_78, if_neg c_81]⟩), by rw [ht9]; exact hP, va_K.moved hW9.alike hK, hD⟩, hS.F ht9⟩) hS.2.2 dX1_reckon_275 hlocks
                        · refine lv_aload_n hx hb dX1_reckon_197 rfl (lv_at hl 3 rfl) ?_
                          refine lv_iload_n hx hb dX1_reckon_198 rfl (lv_at hl 4 rfl) ?_
                          refine lv_iload hx hb dX1_reckon_199 (lv_at hl 0 rfl) ?_
                          refine lv_aload_n hx hb dX1_reckon_201 rfl (lv_at hl 3 rfl) ?_
                          refine lv_lload hx hb dX1_reckon_202 (lv_at hl 2 rfl) ?_
                          refine g_callSl S hs (tX1_size l t (u.2.1 a.toNatClampNeg)) ml_X1_39 st_yX1_size in_X1 cd_yX1_size hd_yX1_size ⟨by decide, by decide⟩ hE hS hA hl.1 rfl (Nat.le_of_ble_eq_true rfl) ⟨by decide, by decide⟩ dX1_reckon_204 (fun r_88 hr_88 => ?_)
                          subst hr_88
                          refine lv_lload hx hb dX1_reckon_207 (lv_at hl 1 rfl) ?_
                          refine g_callSl S hs (tX1_size l t (u.2.1 b.toNatClampNeg)) ml_X1_39 st_yX1_size in_X1 cd_yX1_size hd_yX1_size ⟨by decide, by decide⟩ hE hS hA hl.1 rfl (Nat.le_of_ble_eq_true rfl) ⟨by decide, by decide⟩ dX1_reckon_209 (fun r_89 hr_89 => ?_)
                          subst hr_89
                          refine g_callPl S hs (tX1_quotient l m0 (jX1_size (u.2.1 a.toNatClampNeg)) (jX1_size (u.2.1 b.toNatClampNeg)) (ksize_ne (by assumption))) (va_recv hK hP (ci := 1) (q0 := 0) rfl rfl) ml_X1_51 im_yX1_quotient se_yX1_quotient in_X1 cd_yX1_quotient hd_yX1_quotient ⟨by decide, by decide⟩ hl.1 rfl (Nat.le_of_ble_eq_true rfl) ⟨by decide, by decide⟩ dX1_reckon_212 (fun r_90 hr_90 => ?_)
                          subst hr_90
                          refine lv_iconst (v := 3) hx hb dX1_reckon_215 (by decide) ?_
                          refine g_callMl S hs (tX1_put l t D m0 m1 m2 cJ cI ((0 : Int32), u.2.1, u.2.2) r (1 : Int32) (kquotient (jX1_size (u.2.1 a.toNatClampNeg)) (jX1_size (u.2.1 b.toNatClampNeg))) (3 : Int32) (out_in (by assumption))) rfl ml_X1_43 im_yX1_put se_yX1_put cd_yX1_put hd_yX1_put ⟨by decide, by decide⟩ hE hS hA hP hK hD hl.1 rfl (Nat.le_of_ble_eq_true rfl) ⟨by decide, by decide⟩ dX1_reckon_216 (fun r_91 u_91 H locs hr_91 hP hD hS => ?_)
                          obtain ⟨rfl, rfl⟩ := hr_91
                          exact W.lret (v := (kput ((0 : Int32), u.2.1, u.2.2) r (1 : Int32) (kquotient (jX1_size (u.2.1 a.toNatClampNeg)) (jX1_size (u.2.1 b.toNatClampNeg))) (3 : Int32)).1) hx hb hr (fun t9 ht9 hW9 => ⟨⟨(kput ((0 : Int32), u.2.1, u.2.2) r (1 : Int32) (kquotient (jX1_size (u.2.1 a.toNatClampNeg)) (jX1_size (u.2.1 b.toNatClampNeg))) (3 : Int32)).1, (kput ((0 : Int32), u.2.1, u.2.2) r (1 : Int32) (kquotient (jX1_size (u.2.1 a.toNatClampNeg)) (jX1_size (u.2.1 b.toNatClampNeg))) (3 : Int32)).2, rfl, (⟨by rw [kreckon, if_pos c_2, if_neg c_4, if_neg c_6, if_pos c_9, if_pos c_12, if_neg c_13, if_neg c_53, if_pos c_54, if_pos c_55, if_neg c_56, if_neg c_77, if_pos c_78], by rw [kreckon, if_pos c_2, if_neg c_4, if_neg c_6, if_pos c_9, if_pos c_12, if_neg c_13, if_neg c_53, if_pos c_54, if_pos c_55, if_neg c_56, if_neg c_77, if_pos c_78]⟩), by rw [ht9]; exact hP, va_K.moved hW9.alike hK, hD⟩, hS.F ht9⟩) hS.2.2 dX1_reckon_219 hlocks
                      · refine lv_aload_n hx hb dX1_reckon_169 rfl (lv_at hl 3 rfl) ?_
                        refine lv_iload_n hx hb dX1_reckon_170 rfl (lv_at hl 4 rfl) ?_
                        refine lv_iload hx hb dX1_reckon_171 (lv_at hl 0 rfl) ?_
                        refine lv_aload_n hx hb dX1_reckon_173 rfl (lv_at hl 3 rfl) ?_
                        refine lv_lload hx hb dX1_reckon_174 (lv_at hl 2 rfl) ?_
                        refine g_callSl S hs (tX1_size l t (u.2.1 a.toNatClampNeg)) ml_X1_39 st_yX1_size in_X1 cd_yX1_size hd_yX1_size ⟨by decide, by decide⟩ hE hS hA hl.1 rfl (Nat.le_of_ble_eq_true rfl) ⟨by decide, by decide⟩ dX1_reckon_176 (fun r_92 hr_92 => ?_)
                        subst hr_92
                        refine lv_lload hx hb dX1_reckon_179 (lv_at hl 1 rfl) ?_
                        refine g_callSl S hs (tX1_size l t (u.2.1 b.toNatClampNeg)) ml_X1_39 st_yX1_size in_X1 cd_yX1_size hd_yX1_size ⟨by decide, by decide⟩ hE hS hA hl.1 rfl (Nat.le_of_ble_eq_true rfl) ⟨by decide, by decide⟩ dX1_reckon_181 (fun r_93 hr_93 => ?_)
                        subst hr_93
                        refine g_callPl S hs (tX1_product l m0 (jX1_size (u.2.1 a.toNatClampNeg)) (jX1_size (u.2.1 b.toNatClampNeg))) (va_recv hK hP (ci := 1) (q0 := 0) rfl rfl) ml_X1_47 im_yX1_product se_yX1_product in_X1 cd_yX1_product hd_yX1_product ⟨by decide, by decide⟩ hl.1 rfl (Nat.le_of_ble_eq_true rfl) ⟨by decide, by decide⟩ dX1_reckon_184 (fun r_94 hr_94 => ?_)
                        subst hr_94
                        refine lv_iconst (v := 3) hx hb dX1_reckon_187 (by decide) ?_
                        refine g_callMl S hs (tX1_put l t D m0 m1 m2 cJ cI ((0 : Int32), u.2.1, u.2.2) r (1 : Int32) (kproduct (jX1_size (u.2.1 a.toNatClampNeg)) (jX1_size (u.2.1 b.toNatClampNeg))) (3 : Int32) (out_in (by assumption))) rfl ml_X1_43 im_yX1_put se_yX1_put cd_yX1_put hd_yX1_put ⟨by decide, by decide⟩ hE hS hA hP hK hD hl.1 rfl (Nat.le_of_ble_eq_true rfl) ⟨by decide, by decide⟩ dX1_reckon_188 (fun r_95 u_95 H locs hr_95 hP hD hS => ?_)
                        obtain ⟨rfl, rfl⟩ := hr_95
                        exact W.lret (v := (kput ((0 : Int32), u.2.1, u.2.2) r (1 : Int32) (kproduct (jX1_size (u.2.1 a.toNatClampNeg)) (jX1_size (u.2.1 b.toNatClampNeg))) (3 : Int32)).1) hx hb hr (fun t9 ht9 hW9 => ⟨⟨(kput ((0 : Int32), u.2.1, u.2.2) r (1 : Int32) (kproduct (jX1_size (u.2.1 a.toNatClampNeg)) (jX1_size (u.2.1 b.toNatClampNeg))) (3 : Int32)).1, (kput ((0 : Int32), u.2.1, u.2.2) r (1 : Int32) (kproduct (jX1_size (u.2.1 a.toNatClampNeg)) (jX1_size (u.2.1 b.toNatClampNeg))) (3 : Int32)).2, rfl, (⟨by rw [kreckon, if_pos c_2, if_neg c_4, if_neg c_6, if_pos c_9, if_pos c_12, if_neg c_13, if_neg c_53, if_pos c_54, if_pos c_55, if_neg c_56, if_pos c_77], by rw [kreckon, if_pos c_2, if_neg c_4, if_neg c_6, if_pos c_9, if_pos c_12, if_neg c_13, if_neg c_53, if_pos c_54, if_pos c_55, if_neg c_56, if_pos c_77]⟩), by rw [ht9]; exact hP, va_K.moved hW9.alike hK, hD⟩, hS.F ht9⟩) hS.2.2 dX1_reckon_191 hlocks
                  · refine lv_iconst (v := 1) hx hb dX1_reckon_137 (by decide) ?_
                    refine lv_goto (tgt := 142) hx hb dX1_reckon_138 (by decide) ?_
                    refine lv_lload hx hb dX1_reckon_142 (lv_at hl 0 rfl) ?_
                    refine lv_lconst (v := 0) hx hb dX1_reckon_144 (by decide) ?_
                    refine g_lc_ge (tgt := 153) hx hb dX1_reckon_145 dX1_reckon_146 (by decide) (fun c_96 => ?_) (fun c_96 => ?_)
                    · refine lv_iconst (v := 0) hx hb dX1_reckon_153 (by decide) ?_
                      refine lv_icmp_eq (tgt := 161) hx hb dX1_reckon_154 (by decide) (fun c_97 => absurd c_97 (by decide)) (fun c_97 => ?_)
                      refine lv_iconst (v := 1) hx hb dX1_reckon_157 (by decide) ?_
                      refine lv_goto (tgt := 162) hx hb dX1_reckon_158 (by decide) ?_
                      refine lv_istore (lv' := [(9, .int (1 : Int32)), (7, .long (u.2.1 b.toNatClampNeg)), (5, .long (u.2.1 a.toNatClampNeg)), (0, .ref m0), (1, .int r), (2, .int op), (3, .int a), (4, .int b)]) hx hb dX1_reckon_162 hl (by decide) rfl (fun ls hl => ?_)
                      refine lv_iload_n hx hb dX1_reckon_164 rfl (lv_at hl 5 rfl) ?_
                      refine lv_iconst (v := 2) hx hb dX1_reckon_165 (by decide) ?_
                      refine lv_icmp_ne (tgt := 192) hx hb dX1_reckon_166 (by decide) (fun c_98 => ?_) (fun c_98 => ?_)
                      · refine lv_iload_n hx hb dX1_reckon_192 rfl (lv_at hl 5 rfl) ?_
                        refine lv_iconst (v := 3) hx hb dX1_reckon_193 (by decide) ?_
                        refine lv_icmp_ne (tgt := 220) hx hb dX1_reckon_194 (by decide) (fun c_99 => ?_) (fun c_99 => ?_)
                        · refine lv_lload hx hb dX1_reckon_220 (lv_at hl 2 rfl) ?_
                          refine g_callSl S hs (tX1_size l t (u.2.1 a.toNatClampNeg)) ml_X1_39 st_yX1_size in_X1 cd_yX1_size hd_yX1_size ⟨by decide, by decide⟩ hE hS hA hl.1 rfl (Nat.le_of_ble_eq_true rfl) ⟨by decide, by decide⟩ dX1_reckon_222 (fun r_100 hr_100 => ?_)
                          subst hr_100
                          refine lv_lload hx hb dX1_reckon_225 (lv_at hl 1 rfl) ?_
                          refine g_callSl S hs (tX1_size l t (u.2.1 b.toNatClampNeg)) ml_X1_39 st_yX1_size in_X1 cd_yX1_size hd_yX1_size ⟨by decide, by decide⟩ hE hS hA hl.1 rfl (Nat.le_of_ble_eq_true rfl) ⟨by decide, by decide⟩ dX1_reckon_227 (fun r_101 hr_101 => ?_)
                          subst hr_101
                          refine lv_lrem hx hb dX1_reckon_230 (ksize_ne (by assumption)) ?_
                          refine lv_lstore (lv' := [(10, .long ((jX1_size (u.2.1 a.toNatClampNeg)) - (jX1_size (u.2.1 a.toNatClampNeg)) / (jX1_size (u.2.1 b.toNatClampNeg)) * (jX1_size (u.2.1 b.toNatClampNeg)))), (9, .int (1 : Int32)), (7, .long (u.2.1 b.toNatClampNeg)), (5, .long (u.2.1 a.toNatClampNeg)), (0, .ref m0), (1, .int r), (2, .int op), (3, .int a), (4, .int b)]) hx hb dX1_reckon_231 hl (by decide) rfl (fun ls hl => ?_)
                          refine lv_lload hx hb dX1_reckon_233 (lv_at hl 0 rfl) ?_
                          refine lv_lconst (v := 0) hx hb dX1_reckon_235 (by decide) ?_
                          refine g_lc_le (tgt := 255) hx hb dX1_reckon_236 dX1_reckon_237 (by decide) (fun c_102 => ?_) (fun c_102 => ?_)
                          · refine lv_aload_n hx hb dX1_reckon_255 rfl (lv_at hl 4 rfl) ?_
                            refine lv_iload_n hx hb dX1_reckon_256 rfl (lv_at hl 5 rfl) ?_
                            refine lv_lload hx hb dX1_reckon_257 (lv_at hl 2 rfl) ?_
                            refine lv_lconst (v := 0) hx hb dX1_reckon_259 (by decide) ?_
                            refine g_lc_ge (tgt := 268) hx hb dX1_reckon_260 dX1_reckon_261 (by decide) (fun c_103 => ?_) (fun c_103 => absurd (c_96) c_103)
                            refine lv_iconst (v := 0) hx hb dX1_reckon_268 (by decide) ?_
                            refine lv_lload hx hb dX1_reckon_269 (lv_at hl 0 rfl) ?_
                            refine lv_iconst (v := 3) hx hb dX1_reckon_271 (by decide) ?_
                            refine g_callMl S hs (tX1_put l t D m0 m1 m2 cJ cI ((0 : Int32), u.2.1, u.2.2) r (0 : Int32) ((jX1_size (u.2.1 a.toNatClampNeg)) - (jX1_size (u.2.1 a.toNatClampNeg)) / (jX1_size (u.2.1 b.toNatClampNeg)) * (jX1_size (u.2.1 b.toNatClampNeg))) (3 : Int32) (out_in (by assumption))) rfl ml_X1_43 im_yX1_put se_yX1_put cd_yX1_put hd_yX1_put ⟨by decide, by decide⟩ hE hS hA hP hK hD hl.1 rfl (Nat.le_of_ble_eq_true rfl) ⟨by decide, by decide⟩ dX1_reckon_272 (fun r_104 u_104 H locs hr_104 hP hD hS => ?_)
                            obtain ⟨rfl, rfl⟩ := hr_104
                            exact W.lret (v := (kput ((0 : Int32), u.2.1, u.2.2) r (0 : Int32) ((jX1_size (u.2.1 a.toNatClampNeg)) - (jX1_size (u.2.1 a.toNatClampNeg)) / (jX1_size (u.2.1 b.toNatClampNeg)) * (jX1_size (u.2.1 b.toNatClampNeg))) (3 : Int32)).1) hx hb hr (fun t9 ht9 hW9 => ⟨⟨(kput ((0 : Int32), u.2.1, u.2.2) r (0 : Int32) ((jX1_size (u.2.1 a.toNatClampNeg)) - (jX1_size (u.2.1 a.toNatClampNeg)) / (jX1_size (u.2.1 b.toNatClampNeg)) * (jX1_size (u.2.1 b.toNatClampNeg))) (3 : Int32)).1, (kput ((0 : Int32), u.2.1, u.2.2) r (0 : Int32) ((jX1_size (u.2.1 a.toNatClampNeg)) - (jX1_size (u.2.1 a.toNatClampNeg)) / (jX1_size (u.2.1 b.toNatClampNeg)) * (jX1_size (u.2.1 b.toNatClampNeg))) (3 : Int32)).2, rfl, (⟨by rw [kreckon, if_pos c_2, if_neg c_4, if_neg c_6, if_pos c_9, if_pos c_12, if_neg c_13, if_neg c_53, if_pos c_54, if_neg c_55, if_pos c_96, if_neg c_98, if_neg c_99, if_pos c_102], by rw [kreckon, if_pos c_2, if_neg c_4, if_neg c_6, if_pos c_9, if_pos c_12, if_neg c_13, if_neg c_53, if_pos c_54, if_neg c_55, if_pos c_96, if_neg c_98, if_neg c_99, if_pos c_102]⟩), by rw [ht9]; exact hP, va_K.moved hW9.alike hK, hD⟩, hS.F ht9⟩) hS.2.2 dX1_reckon_275 hlocks
                          · refine lv_iload hx hb dX1_reckon_240 (lv_at hl 1 rfl) ?_
                            refine lv_if_eq (tgt := 255) hx hb dX1_reckon_242 (by decide) (fun c_105 => absurd c_105 (by decide)) (fun c_105 => ?_)
                            refine lv_lload hx hb dX1_reckon_245 (lv_at hl 2 rfl) ?_
                            refine g_callSl S hs (tX1_size l t (u.2.1 b.toNatClampNeg)) ml_X1_39 st_yX1_size in_X1 cd_yX1_size hd_yX1_size ⟨by decide, by decide⟩ hE hS hA hl.1 rfl (Nat.le_of_ble_eq_true rfl) ⟨by decide, by decide⟩ dX1_reckon_247 (fun r_106 hr_106 => ?_)
                            subst hr_106
                            refine lv_lload hx hb dX1_reckon_250 (lv_at hl 0 rfl) ?_
                            refine lv_lsub hx hb dX1_reckon_252 ?_
                            refine lv_lstore (lv' := [(10, .long ((jX1_size (u.2.1 b.toNatClampNeg)) - ((jX1_size (u.2.1 a.toNatClampNeg)) - (jX1_size (u.2.1 a.toNatClampNeg)) / (jX1_size (u.2.1 b.toNatClampNeg)) * (jX1_size (u.2.1 b.toNatClampNeg))))), (9, .int (1 : Int32)), (7, .long (u.2.1 b.toNatClampNeg)), (5, .long (u.2.1 a.toNatClampNeg)), (0, .ref m0), (1, .int r), (2, .int op), (3, .int a), (4, .int b)]) hx hb dX1_reckon_253 hl (by decide) rfl (fun ls hl => ?_)
                            refine lv_aload_n hx hb dX1_reckon_255 rfl (lv_at hl 4 rfl) ?_
                            refine lv_iload_n hx hb dX1_reckon_256 rfl (lv_at hl 5 rfl) ?_
                            refine lv_lload hx hb dX1_reckon_257 (lv_at hl 2 rfl) ?_
                            refine lv_lconst (v := 0) hx hb dX1_reckon_259 (by decide) ?_
                            refine g_lc_ge (tgt := 268) hx hb dX1_reckon_260 dX1_reckon_261 (by decide) (fun c_107 => ?_) (fun c_107 => absurd (c_96) c_107)
                            refine lv_iconst (v := 0) hx hb dX1_reckon_268 (by decide) ?_
                            refine lv_lload hx hb dX1_reckon_269 (lv_at hl 0 rfl) ?_
                            refine lv_iconst (v := 3) hx hb dX1_reckon_271 (by decide) ?_
                            refine g_callMl S hs (tX1_put l t D m0 m1 m2 cJ cI ((0 : Int32), u.2.1, u.2.2) r (0 : Int32) ((jX1_size (u.2.1 b.toNatClampNeg)) - ((jX1_size (u.2.1 a.toNatClampNeg)) - (jX1_size (u.2.1 a.toNatClampNeg)) / (jX1_size (u.2.1 b.toNatClampNeg)) * (jX1_size (u.2.1 b.toNatClampNeg)))) (3 : Int32) (out_in (by assumption))) rfl ml_X1_43 im_yX1_put se_yX1_put cd_yX1_put hd_yX1_put ⟨by decide, by decide⟩ hE hS hA hP hK hD hl.1 rfl (Nat.le_of_ble_eq_true rfl) ⟨by decide, by decide⟩ dX1_reckon_272 (fun r_108 u_108 H locs hr_108 hP hD hS => ?_)
                            obtain ⟨rfl, rfl⟩ := hr_108
                            exact W.lret (v := (kput ((0 : Int32), u.2.1, u.2.2) r (0 : Int32) ((jX1_size (u.2.1 b.toNatClampNeg)) - ((jX1_size (u.2.1 a.toNatClampNeg)) - (jX1_size (u.2.1 a.toNatClampNeg)) / (jX1_size (u.2.1 b.toNatClampNeg)) * (jX1_size (u.2.1 b.toNatClampNeg)))) (3 : Int32)).1) hx hb hr (fun t9 ht9 hW9 => ⟨⟨(kput ((0 : Int32), u.2.1, u.2.2) r (0 : Int32) ((jX1_size (u.2.1 b.toNatClampNeg)) - ((jX1_size (u.2.1 a.toNatClampNeg)) - (jX1_size (u.2.1 a.toNatClampNeg)) / (jX1_size (u.2.1 b.toNatClampNeg)) * (jX1_size (u.2.1 b.toNatClampNeg)))) (3 : Int32)).1, (kput ((0 : Int32), u.2.1, u.2.2) r (0 : Int32) ((jX1_size (u.2.1 b.toNatClampNeg)) - ((jX1_size (u.2.1 a.toNatClampNeg)) - (jX1_size (u.2.1 a.toNatClampNeg)) / (jX1_size (u.2.1 b.toNatClampNeg)) * (jX1_size (u.2.1 b.toNatClampNeg)))) (3 : Int32)).2, rfl, (⟨by rw [kreckon, if_pos c_2, if_neg c_4, if_neg c_6, if_pos c_9, if_pos c_12, if_neg c_13, if_neg c_53, if_pos c_54, if_neg c_55, if_pos c_96, if_neg c_98, if_neg c_99, if_neg c_102], by rw [kreckon, if_pos c_2, if_neg c_4, if_neg c_6, if_pos c_9, if_pos c_12, if_neg c_13, if_neg c_53, if_pos c_54, if_neg c_55, if_pos c_96, if_neg c_98, if_neg c_99, if_neg c_102]⟩), by rw [ht9]; exact hP, va_K.moved hW9.alike hK, hD⟩, hS.F ht9⟩) hS.2.2 dX1_reckon_275 hlocks
                        · refine lv_aload_n hx hb dX1_reckon_197 rfl (lv_at hl 3 rfl) ?_
                          refine lv_iload_n hx hb dX1_reckon_198 rfl (lv_at hl 4 rfl) ?_
                          refine lv_iload hx hb dX1_reckon_199 (lv_at hl 0 rfl) ?_
                          refine lv_aload_n hx hb dX1_reckon_201 rfl (lv_at hl 3 rfl) ?_
                          refine lv_lload hx hb dX1_reckon_202 (lv_at hl 2 rfl) ?_
                          refine g_callSl S hs (tX1_size l t (u.2.1 a.toNatClampNeg)) ml_X1_39 st_yX1_size in_X1 cd_yX1_size hd_yX1_size ⟨by decide, by decide⟩ hE hS hA hl.1 rfl (Nat.le_of_ble_eq_true rfl) ⟨by decide, by decide⟩ dX1_reckon_204 (fun r_109 hr_109 => ?_)
                          subst hr_109
                          refine lv_lload hx hb dX1_reckon_207 (lv_at hl 1 rfl) ?_
                          refine g_callSl S hs (tX1_size l t (u.2.1 b.toNatClampNeg)) ml_X1_39 st_yX1_size in_X1 cd_yX1_size hd_yX1_size ⟨by decide, by decide⟩ hE hS hA hl.1 rfl (Nat.le_of_ble_eq_true rfl) ⟨by decide, by decide⟩ dX1_reckon_209 (fun r_110 hr_110 => ?_)
                          subst hr_110
                          refine g_callPl S hs (tX1_quotient l m0 (jX1_size (u.2.1 a.toNatClampNeg)) (jX1_size (u.2.1 b.toNatClampNeg)) (ksize_ne (by assumption))) (va_recv hK hP (ci := 1) (q0 := 0) rfl rfl) ml_X1_51 im_yX1_quotient se_yX1_quotient in_X1 cd_yX1_quotient hd_yX1_quotient ⟨by decide, by decide⟩ hl.1 rfl (Nat.le_of_ble_eq_true rfl) ⟨by decide, by decide⟩ dX1_reckon_212 (fun r_111 hr_111 => ?_)
                          subst hr_111
                          refine lv_iconst (v := 3) hx hb dX1_reckon_215 (by decide) ?_
                          refine g_callMl S hs (tX1_put l t D m0 m1 m2 cJ cI ((0 : Int32), u.2.1, u.2.2) r (1 : Int32) (kquotient (jX1_size (u.2.1 a.toNatClampNeg)) (jX1_size (u.2.1 b.toNatClampNeg))) (3 : Int32) (out_in (by assumption))) rfl ml_X1_43 im_yX1_put se_yX1_put cd_yX1_put hd_yX1_put ⟨by decide, by decide⟩ hE hS hA hP hK hD hl.1 rfl (Nat.le_of_ble_eq_true rfl) ⟨by decide, by decide⟩ dX1_reckon_216 (fun r_112 u_112 H locs hr_112 hP hD hS => ?_)
                          obtain ⟨rfl, rfl⟩ := hr_112
                          exact W.lret (v := (kput ((0 : Int32), u.2.1, u.2.2) r (1 : Int32) (kquotient (jX1_size (u.2.1 a.toNatClampNeg)) (jX1_size (u.2.1 b.toNatClampNeg))) (3 : Int32)).1) hx hb hr (fun t9 ht9 hW9 => ⟨⟨(kput ((0 : Int32), u.2.1, u.2.2) r (1 : Int32) (kquotient (jX1_size (u.2.1 a.toNatClampNeg)) (jX1_size (u.2.1 b.toNatClampNeg))) (3 : Int32)).1, (kput ((0 : Int32), u.2.1, u.2.2) r (1 : Int32) (kquotient (jX1_size (u.2.1 a.toNatClampNeg)) (jX1_size (u.2.1 b.toNatClampNeg))) (3 : Int32)).2, rfl, (⟨by rw [kreckon, if_pos c_2, if_neg c_4, if_neg c_6, if_pos c_9, if_pos c_12, if_neg c_13, if_neg c_53, if_pos c_54, if_neg c_55, if_pos c_96, if_neg c_98, if_pos c_99], by rw [kreckon, if_pos c_2, if_neg c_4, if_neg c_6, if_pos c_9, if_pos c_12, if_neg c_13, if_neg c_53, if_pos c_54, if_neg c_55, if_pos c_96, if_neg c_98, if_pos c_99]⟩), by rw [ht9]; exact hP, va_K.moved hW9.alike hK, hD⟩, hS.F ht9⟩) hS.2.2 dX1_reckon_219 hlocks
                      · refine lv_aload_n hx hb dX1_reckon_169 rfl (lv_at hl 3 rfl) ?_
                        refine lv_iload_n hx hb dX1_reckon_170 rfl (lv_at hl 4 rfl) ?_
                        refine lv_iload hx hb dX1_reckon_171 (lv_at hl 0 rfl) ?_
                        refine lv_aload_n hx hb dX1_reckon_173 rfl (lv_at hl 3 rfl) ?_
                        refine lv_lload hx hb dX1_reckon_174 (lv_at hl 2 rfl) ?_
                        refine g_callSl S hs (tX1_size l t (u.2.1 a.toNatClampNeg)) ml_X1_39 st_yX1_size in_X1 cd_yX1_size hd_yX1_size ⟨by decide, by decide⟩ hE hS hA hl.1 rfl (Nat.le_of_ble_eq_true rfl) ⟨by decide, by decide⟩ dX1_reckon_176 (fun r_113 hr_113 => ?_)
                        subst hr_113
                        refine lv_lload hx hb dX1_reckon_179 (lv_at hl 1 rfl) ?_
                        refine g_callSl S hs (tX1_size l t (u.2.1 b.toNatClampNeg)) ml_X1_39 st_yX1_size in_X1 cd_yX1_size hd_yX1_size ⟨by decide, by decide⟩ hE hS hA hl.1 rfl (Nat.le_of_ble_eq_true rfl) ⟨by decide, by decide⟩ dX1_reckon_181 (fun r_114 hr_114 => ?_)
                        subst hr_114
                        refine g_callPl S hs (tX1_product l m0 (jX1_size (u.2.1 a.toNatClampNeg)) (jX1_size (u.2.1 b.toNatClampNeg))) (va_recv hK hP (ci := 1) (q0 := 0) rfl rfl) ml_X1_47 im_yX1_product se_yX1_product in_X1 cd_yX1_product hd_yX1_product ⟨by decide, by decide⟩ hl.1 rfl (Nat.le_of_ble_eq_true rfl) ⟨by decide, by decide⟩ dX1_reckon_184 (fun r_115 hr_115 => ?_)
                        subst hr_115
                        refine lv_iconst (v := 3) hx hb dX1_reckon_187 (by decide) ?_
                        refine g_callMl S hs (tX1_put l t D m0 m1 m2 cJ cI ((0 : Int32), u.2.1, u.2.2) r (1 : Int32) (kproduct (jX1_size (u.2.1 a.toNatClampNeg)) (jX1_size (u.2.1 b.toNatClampNeg))) (3 : Int32) (out_in (by assumption))) rfl ml_X1_43 im_yX1_put se_yX1_put cd_yX1_put hd_yX1_put ⟨by decide, by decide⟩ hE hS hA hP hK hD hl.1 rfl (Nat.le_of_ble_eq_true rfl) ⟨by decide, by decide⟩ dX1_reckon_188 (fun r_116 u_116 H locs hr_116 hP hD hS => ?_)
                        obtain ⟨rfl, rfl⟩ := hr_116
                        exact W.lret (v := (kput ((0 : Int32), u.2.1, u.2.2) r (1 : Int32) (kproduct (jX1_size (u.2.1 a.toNatClampNeg)) (jX1_size (u.2.1 b.toNatClampNeg))) (3 : Int32)).1) hx hb hr (fun t9 ht9 hW9 => ⟨⟨(kput ((0 : Int32), u.2.1, u.2.2) r (1 : Int32) (kproduct (jX1_size (u.2.1 a.toNatClampNeg)) (jX1_size (u.2.1 b.toNatClampNeg))) (3 : Int32)).1, (kput ((0 : Int32), u.2.1, u.2.2) r (1 : Int32) (kproduct (jX1_size (u.2.1 a.toNatClampNeg)) (jX1_size (u.2.1 b.toNatClampNeg))) (3 : Int32)).2, rfl, (⟨by rw [kreckon, if_pos c_2, if_neg c_4, if_neg c_6, if_pos c_9, if_pos c_12, if_neg c_13, if_neg c_53, if_pos c_54, if_neg c_55, if_pos c_96, if_pos c_98], by rw [kreckon, if_pos c_2, if_neg c_4, if_neg c_6, if_pos c_9, if_pos c_12, if_neg c_13, if_neg c_53, if_pos c_54, if_neg c_55, if_pos c_96, if_pos c_98]⟩), by rw [ht9]; exact hP, va_K.moved hW9.alike hK, hD⟩, hS.F ht9⟩) hS.2.2 dX1_reckon_191 hlocks
                    · refine lv_iconst (v := 1) hx hb dX1_reckon_149 (by decide) ?_
                      refine lv_goto (tgt := 154) hx hb dX1_reckon_150 (by decide) ?_
                      refine lv_icmp_eq (tgt := 161) hx hb dX1_reckon_154 (by decide) (fun c_117 => ?_) (fun c_117 => absurd c_117 (by decide))
                      refine lv_iconst (v := 0) hx hb dX1_reckon_161 (by decide) ?_
                      refine lv_istore (lv' := [(9, .int (0 : Int32)), (7, .long (u.2.1 b.toNatClampNeg)), (5, .long (u.2.1 a.toNatClampNeg)), (0, .ref m0), (1, .int r), (2, .int op), (3, .int a), (4, .int b)]) hx hb dX1_reckon_162 hl (by decide) rfl (fun ls hl => ?_)
                      refine lv_iload_n hx hb dX1_reckon_164 rfl (lv_at hl 5 rfl) ?_
                      refine lv_iconst (v := 2) hx hb dX1_reckon_165 (by decide) ?_
                      refine lv_icmp_ne (tgt := 192) hx hb dX1_reckon_166 (by decide) (fun c_118 => ?_) (fun c_118 => ?_)
                      · refine lv_iload_n hx hb dX1_reckon_192 rfl (lv_at hl 5 rfl) ?_
                        refine lv_iconst (v := 3) hx hb dX1_reckon_193 (by decide) ?_
                        refine lv_icmp_ne (tgt := 220) hx hb dX1_reckon_194 (by decide) (fun c_119 => ?_) (fun c_119 => ?_)
                        · refine lv_lload hx hb dX1_reckon_220 (lv_at hl 2 rfl) ?_
                          refine g_callSl S hs (tX1_size l t (u.2.1 a.toNatClampNeg)) ml_X1_39 st_yX1_size in_X1 cd_yX1_size hd_yX1_size ⟨by decide, by decide⟩ hE hS hA hl.1 rfl (Nat.le_of_ble_eq_true rfl) ⟨by decide, by decide⟩ dX1_reckon_222 (fun r_120 hr_120 => ?_)
                          subst hr_120
                          refine lv_lload hx hb dX1_reckon_225 (lv_at hl 1 rfl) ?_
                          refine g_callSl S hs (tX1_size l t (u.2.1 b.toNatClampNeg)) ml_X1_39 st_yX1_size in_X1 cd_yX1_size hd_yX1_size ⟨by decide, by decide⟩ hE hS hA hl.1 rfl (Nat.le_of_ble_eq_true rfl) ⟨by decide, by decide⟩ dX1_reckon_227 (fun r_121 hr_121 => ?_)
                          subst hr_121
                          refine lv_lrem hx hb dX1_reckon_230 (ksize_ne (by assumption)) ?_
                          refine lv_lstore (lv' := [(10, .long ((jX1_size (u.2.1 a.toNatClampNeg)) - (jX1_size (u.2.1 a.toNatClampNeg)) / (jX1_size (u.2.1 b.toNatClampNeg)) * (jX1_size (u.2.1 b.toNatClampNeg)))), (9, .int (0 : Int32)), (7, .long (u.2.1 b.toNatClampNeg)), (5, .long (u.2.1 a.toNatClampNeg)), (0, .ref m0), (1, .int r), (2, .int op), (3, .int a), (4, .int b)]) hx hb dX1_reckon_231 hl (by decide) rfl (fun ls hl => ?_)
                          refine lv_lload hx hb dX1_reckon_233 (lv_at hl 0 rfl) ?_
                          refine lv_lconst (v := 0) hx hb dX1_reckon_235 (by decide) ?_
                          refine g_lc_le (tgt := 255) hx hb dX1_reckon_236 dX1_reckon_237 (by decide) (fun c_122 => ?_) (fun c_122 => ?_)
                          · refine lv_aload_n hx hb dX1_reckon_255 rfl (lv_at hl 4 rfl) ?_
                            refine lv_iload_n hx hb dX1_reckon_256 rfl (lv_at hl 5 rfl) ?_
                            refine lv_lload hx hb dX1_reckon_257 (lv_at hl 2 rfl) ?_
                            refine lv_lconst (v := 0) hx hb dX1_reckon_259 (by decide) ?_
                            refine g_lc_ge (tgt := 268) hx hb dX1_reckon_260 dX1_reckon_261 (by decide) (fun c_123 => absurd c_123 c_96) (fun c_123 => ?_)
                            refine lv_iconst (v := 1) hx hb dX1_reckon_264 (by decide) ?_
                            refine lv_goto (tgt := 269) hx hb dX1_reckon_265 (by decide) ?_
                            refine lv_lload hx hb dX1_reckon_269 (lv_at hl 0 rfl) ?_
                            refine lv_iconst (v := 3) hx hb dX1_reckon_271 (by decide) ?_
                            refine g_callMl S hs (tX1_put l t D m0 m1 m2 cJ cI ((0 : Int32), u.2.1, u.2.2) r (1 : Int32) ((jX1_size (u.2.1 a.toNatClampNeg)) - (jX1_size (u.2.1 a.toNatClampNeg)) / (jX1_size (u.2.1 b.toNatClampNeg)) * (jX1_size (u.2.1 b.toNatClampNeg))) (3 : Int32) (out_in (by assumption))) rfl ml_X1_43 im_yX1_put se_yX1_put cd_yX1_put hd_yX1_put ⟨by decide, by decide⟩ hE hS hA hP hK hD hl.1 rfl (Nat.le_of_ble_eq_true rfl) ⟨by decide, by decide⟩ dX1_reckon_272 (fun r_124 u_124 H locs hr_124 hP hD hS => ?_)
                            obtain ⟨rfl, rfl⟩ := hr_124
                            exact W.lret (v := (kput ((0 : Int32), u.2.1, u.2.2) r (1 : Int32) ((jX1_size (u.2.1 a.toNatClampNeg)) - (jX1_size (u.2.1 a.toNatClampNeg)) / (jX1_size (u.2.1 b.toNatClampNeg)) * (jX1_size (u.2.1 b.toNatClampNeg))) (3 : Int32)).1) hx hb hr (fun t9 ht9 hW9 => ⟨⟨(kput ((0 : Int32), u.2.1, u.2.2) r (1 : Int32) ((jX1_size (u.2.1 a.toNatClampNeg)) - (jX1_size (u.2.1 a.toNatClampNeg)) / (jX1_size (u.2.1 b.toNatClampNeg)) * (jX1_size (u.2.1 b.toNatClampNeg))) (3 : Int32)).1, (kput ((0 : Int32), u.2.1, u.2.2) r (1 : Int32) ((jX1_size (u.2.1 a.toNatClampNeg)) - (jX1_size (u.2.1 a.toNatClampNeg)) / (jX1_size (u.2.1 b.toNatClampNeg)) * (jX1_size (u.2.1 b.toNatClampNeg))) (3 : Int32)).2, rfl, (⟨by rw [kreckon, if_pos c_2, if_neg c_4, if_neg c_6, if_pos c_9, if_pos c_12, if_neg c_13, if_neg c_53, if_pos c_54, if_neg c_55, if_neg c_96, if_neg c_118, if_neg c_119, if_pos c_122], by rw [kreckon, if_pos c_2, if_neg c_4, if_neg c_6, if_pos c_9, if_pos c_12, if_neg c_13, if_neg c_53, if_pos c_54, if_neg c_55, if_neg c_96, if_neg c_118, if_neg c_119, if_pos c_122]⟩), by rw [ht9]; exact hP, va_K.moved hW9.alike hK, hD⟩, hS.F ht9⟩) hS.2.2 dX1_reckon_275 hlocks
                          · refine lv_iload hx hb dX1_reckon_240 (lv_at hl 1 rfl) ?_
                            refine lv_if_eq (tgt := 255) hx hb dX1_reckon_242 (by decide) (fun c_125 => ?_) (fun c_125 => absurd c_125 (by decide))
                            refine lv_aload_n hx hb dX1_reckon_255 rfl (lv_at hl 4 rfl) ?_
                            refine lv_iload_n hx hb dX1_reckon_256 rfl (lv_at hl 5 rfl) ?_
                            refine lv_lload hx hb dX1_reckon_257 (lv_at hl 2 rfl) ?_
                            refine lv_lconst (v := 0) hx hb dX1_reckon_259 (by decide) ?_
                            refine g_lc_ge (tgt := 268) hx hb dX1_reckon_260 dX1_reckon_261 (by decide) (fun c_126 => absurd c_126 c_96) (fun c_126 => ?_)
                            refine lv_iconst (v := 1) hx hb dX1_reckon_264 (by decide) ?_
                            refine lv_goto (tgt := 269) hx hb dX1_reckon_265 (by decide) ?_
                            refine lv_lload hx hb dX1_reckon_269 (lv_at hl 0 rfl) ?_
                            refine lv_iconst (v := 3) hx hb dX1_reckon_271 (by decide) ?_
                            refine g_callMl S hs (tX1_put l t D m0 m1 m2 cJ cI ((0 : Int32), u.2.1, u.2.2) r (1 : Int32) ((jX1_size (u.2.1 a.toNatClampNeg)) - (jX1_size (u.2.1 a.toNatClampNeg)) / (jX1_size (u.2.1 b.toNatClampNeg)) * (jX1_size (u.2.1 b.toNatClampNeg))) (3 : Int32) (out_in (by assumption))) rfl ml_X1_43 im_yX1_put se_yX1_put cd_yX1_put hd_yX1_put ⟨by decide, by decide⟩ hE hS hA hP hK hD hl.1 rfl (Nat.le_of_ble_eq_true rfl) ⟨by decide, by decide⟩ dX1_reckon_272 (fun r_127 u_127 H locs hr_127 hP hD hS => ?_)
                            obtain ⟨rfl, rfl⟩ := hr_127
                            exact W.lret (v := (kput ((0 : Int32), u.2.1, u.2.2) r (1 : Int32) ((jX1_size (u.2.1 a.toNatClampNeg)) - (jX1_size (u.2.1 a.toNatClampNeg)) / (jX1_size (u.2.1 b.toNatClampNeg)) * (jX1_size (u.2.1 b.toNatClampNeg))) (3 : Int32)).1) hx hb hr (fun t9 ht9 hW9 => ⟨⟨(kput ((0 : Int32), u.2.1, u.2.2) r (1 : Int32) ((jX1_size (u.2.1 a.toNatClampNeg)) - (jX1_size (u.2.1 a.toNatClampNeg)) / (jX1_size (u.2.1 b.toNatClampNeg)) * (jX1_size (u.2.1 b.toNatClampNeg))) (3 : Int32)).1, (kput ((0 : Int32), u.2.1, u.2.2) r (1 : Int32) ((jX1_size (u.2.1 a.toNatClampNeg)) - (jX1_size (u.2.1 a.toNatClampNeg)) / (jX1_size (u.2.1 b.toNatClampNeg)) * (jX1_size (u.2.1 b.toNatClampNeg))) (3 : Int32)).2, rfl, (⟨by rw [kreckon, if_pos c_2, if_neg c_4, if_neg c_6, if_pos c_9, if_pos c_12, if_neg c_13, if_neg c_53, if_pos c_54, if_neg c_55, if_neg c_96, if_neg c_118, if_neg c_119, if_neg c_122], by rw [kreckon, if_pos c_2, if_neg c_4, if_neg c_6, if_pos c_9, if_pos c_12, if_neg c_13, if_neg c_53, if_pos c_54, if_neg c_55, if_neg c_96, if_neg c_118, if_neg c_119, if_neg c_122]⟩), by rw [ht9]; exact hP, va_K.moved hW9.alike hK, hD⟩, hS.F ht9⟩) hS.2.2 dX1_reckon_275 hlocks
                        · refine lv_aload_n hx hb dX1_reckon_197 rfl (lv_at hl 3 rfl) ?_
                          refine lv_iload_n hx hb dX1_reckon_198 rfl (lv_at hl 4 rfl) ?_
                          refine lv_iload hx hb dX1_reckon_199 (lv_at hl 0 rfl) ?_
                          refine lv_aload_n hx hb dX1_reckon_201 rfl (lv_at hl 3 rfl) ?_
                          refine lv_lload hx hb dX1_reckon_202 (lv_at hl 2 rfl) ?_
                          refine g_callSl S hs (tX1_size l t (u.2.1 a.toNatClampNeg)) ml_X1_39 st_yX1_size in_X1 cd_yX1_size hd_yX1_size ⟨by decide, by decide⟩ hE hS hA hl.1 rfl (Nat.le_of_ble_eq_true rfl) ⟨by decide, by decide⟩ dX1_reckon_204 (fun r_128 hr_128 => ?_)
                          subst hr_128
                          refine lv_lload hx hb dX1_reckon_207 (lv_at hl 1 rfl) ?_
                          refine g_callSl S hs (tX1_size l t (u.2.1 b.toNatClampNeg)) ml_X1_39 st_yX1_size in_X1 cd_yX1_size hd_yX1_size ⟨by decide, by decide⟩ hE hS hA hl.1 rfl (Nat.le_of_ble_eq_true rfl) ⟨by decide, by decide⟩ dX1_reckon_209 (fun r_129 hr_129 => ?_)
                          subst hr_129
                          refine g_callPl S hs (tX1_quotient l m0 (jX1_size (u.2.1 a.toNatClampNeg)) (jX1_size (u.2.1 b.toNatClampNeg)) (ksize_ne (by assumption))) (va_recv hK hP (ci := 1) (q0 := 0) rfl rfl) ml_X1_51 im_yX1_quotient se_yX1_quotient in_X1 cd_yX1_quotient hd_yX1_quotient ⟨by decide, by decide⟩ hl.1 rfl (Nat.le_of_ble_eq_true rfl) ⟨by decide, by decide⟩ dX1_reckon_212 (fun r_130 hr_130 => ?_)
                          subst hr_130
                          refine lv_iconst (v := 3) hx hb dX1_reckon_215 (by decide) ?_
                          refine g_callMl S hs (tX1_put l t D m0 m1 m2 cJ cI ((0 : Int32), u.2.1, u.2.2) r (0 : Int32) (kquotient (jX1_size (u.2.1 a.toNatClampNeg)) (jX1_size (u.2.1 b.toNatClampNeg))) (3 : Int32) (out_in (by assumption))) rfl ml_X1_43 im_yX1_put se_yX1_put cd_yX1_put hd_yX1_put ⟨by decide, by decide⟩ hE hS hA hP hK hD hl.1 rfl (Nat.le_of_ble_eq_true rfl) ⟨by decide, by decide⟩ dX1_reckon_216 (fun r_131 u_131 H locs hr_131 hP hD hS => ?_)
                          obtain ⟨rfl, rfl⟩ := hr_131
                          exact W.lret (v := (kput ((0 : Int32), u.2.1, u.2.2) r (0 : Int32) (kquotient (jX1_size (u.2.1 a.toNatClampNeg)) (jX1_size (u.2.1 b.toNatClampNeg))) (3 : Int32)).1) hx hb hr (fun t9 ht9 hW9 => ⟨⟨(kput ((0 : Int32), u.2.1, u.2.2) r (0 : Int32) (kquotient (jX1_size (u.2.1 a.toNatClampNeg)) (jX1_size (u.2.1 b.toNatClampNeg))) (3 : Int32)).1, (kput ((0 : Int32), u.2.1, u.2.2) r (0 : Int32) (kquotient (jX1_size (u.2.1 a.toNatClampNeg)) (jX1_size (u.2.1 b.toNatClampNeg))) (3 : Int32)).2, rfl, (⟨by rw [kreckon, if_pos c_2, if_neg c_4, if_neg c_6, if_pos c_9, if_pos c_12, if_neg c_13, if_neg c_53, if_pos c_54, if_neg c_55, if_neg c_96, if_neg c_118, if_pos c_119], by rw [kreckon, if_pos c_2, if_neg c_4, if_neg c_6, if_pos c_9, if_pos c_12, if_neg c_13, if_neg c_53, if_pos c_54, if_neg c_55, if_neg c_96, if_neg c_118, if_pos c_119]⟩), by rw [ht9]; exact hP, va_K.moved hW9.alike hK, hD⟩, hS.F ht9⟩) hS.2.2 dX1_reckon_219 hlocks
                      · refine lv_aload_n hx hb dX1_reckon_169 rfl (lv_at hl 3 rfl) ?_
                        refine lv_iload_n hx hb dX1_reckon_170 rfl (lv_at hl 4 rfl) ?_
                        refine lv_iload hx hb dX1_reckon_171 (lv_at hl 0 rfl) ?_
                        refine lv_aload_n hx hb dX1_reckon_173 rfl (lv_at hl 3 rfl) ?_
                        refine lv_lload hx hb dX1_reckon_174 (lv_at hl 2 rfl) ?_
                        refine g_callSl S hs (tX1_size l t (u.2.1 a.toNatClampNeg)) ml_X1_39 st_yX1_size in_X1 cd_yX1_size hd_yX1_size ⟨by decide, by decide⟩ hE hS hA hl.1 rfl (Nat.le_of_ble_eq_true rfl) ⟨by decide, by decide⟩ dX1_reckon_176 (fun r_132 hr_132 => ?_)
                        subst hr_132
                        refine lv_lload hx hb dX1_reckon_179 (lv_at hl 1 rfl) ?_
                        refine g_callSl S hs (tX1_size l t (u.2.1 b.toNatClampNeg)) ml_X1_39 st_yX1_size in_X1 cd_yX1_size hd_yX1_size ⟨by decide, by decide⟩ hE hS hA hl.1 rfl (Nat.le_of_ble_eq_true rfl) ⟨by decide, by decide⟩ dX1_reckon_181 (fun r_133 hr_133 => ?_)
                        subst hr_133
                        refine g_callPl S hs (tX1_product l m0 (jX1_size (u.2.1 a.toNatClampNeg)) (jX1_size (u.2.1 b.toNatClampNeg))) (va_recv hK hP (ci := 1) (q0 := 0) rfl rfl) ml_X1_47 im_yX1_product se_yX1_product in_X1 cd_yX1_product hd_yX1_product ⟨by decide, by decide⟩ hl.1 rfl (Nat.le_of_ble_eq_true rfl) ⟨by decide, by decide⟩ dX1_reckon_184 (fun r_134 hr_134 => ?_)
                        subst hr_134
                        refine lv_iconst (v := 3) hx hb dX1_reckon_187 (by decide) ?_
                        refine g_callMl S hs (tX1_put l t D m0 m1 m2 cJ cI ((0 : Int32), u.2.1, u.2.2) r (0 : Int32) (kproduct (jX1_size (u.2.1 a.toNatClampNeg)) (jX1_size (u.2.1 b.toNatClampNeg))) (3 : Int32) (out_in (by assumption))) rfl ml_X1_43 im_yX1_put se_yX1_put cd_yX1_put hd_yX1_put ⟨by decide, by decide⟩ hE hS hA hP hK hD hl.1 rfl (Nat.le_of_ble_eq_true rfl) ⟨by decide, by decide⟩ dX1_reckon_188 (fun r_135 u_135 H locs hr_135 hP hD hS => ?_)
                        obtain ⟨rfl, rfl⟩ := hr_135
                        exact W.lret (v := (kput ((0 : Int32), u.2.1, u.2.2) r (0 : Int32) (kproduct (jX1_size (u.2.1 a.toNatClampNeg)) (jX1_size (u.2.1 b.toNatClampNeg))) (3 : Int32)).1) hx hb hr (fun t9 ht9 hW9 => ⟨⟨(kput ((0 : Int32), u.2.1, u.2.2) r (0 : Int32) (kproduct (jX1_size (u.2.1 a.toNatClampNeg)) (jX1_size (u.2.1 b.toNatClampNeg))) (3 : Int32)).1, (kput ((0 : Int32), u.2.1, u.2.2) r (0 : Int32) (kproduct (jX1_size (u.2.1 a.toNatClampNeg)) (jX1_size (u.2.1 b.toNatClampNeg))) (3 : Int32)).2, rfl, (⟨by rw [kreckon, if_pos c_2, if_neg c_4, if_neg c_6, if_pos c_9, if_pos c_12, if_neg c_13, if_neg c_53, if_pos c_54, if_neg c_55, if_neg c_96, if_pos c_118], by rw [kreckon, if_pos c_2, if_neg c_4, if_neg c_6, if_pos c_9, if_pos c_12, if_neg c_13, if_neg c_53, if_pos c_54, if_neg c_55, if_neg c_96, if_pos c_118]⟩), by rw [ht9]; exact hP, va_K.moved hW9.alike hK, hD⟩, hS.F ht9⟩) hS.2.2 dX1_reckon_191 hlocks
                · refine lv_iload_n hx hb dX1_reckon_87 rfl (lv_at hl 4 rfl) ?_
                  refine lv_if_ne (tgt := 99) hx hb dX1_reckon_88 (by decide) (fun c_136 => ?_) (fun c_136 => ?_)
                  · refine lv_lload hx hb dX1_reckon_99 (lv_at hl 1 rfl) ?_
                    refine lv_lload hx hb dX1_reckon_101 (lv_at hl 0 rfl) ?_
                    refine lv_lsub hx hb dX1_reckon_103 ?_
                    refine lv_lstore (lv' := [(9, .long ((u.2.1 a.toNatClampNeg) - (u.2.1 b.toNatClampNeg))), (7, .long (u.2.1 b.toNatClampNeg)), (5, .long (u.2.1 a.toNatClampNeg)), (0, .ref m0), (1, .int r), (2, .int op), (3, .int a), (4, .int b)]) hx hb dX1_reckon_104 hl (by decide) rfl (fun ls hl => ?_)
                    refine lv_aload_n hx hb dX1_reckon_106 rfl (lv_at hl 3 rfl) ?_
                    refine lv_iload_n hx hb dX1_reckon_107 rfl (lv_at hl 4 rfl) ?_
                    refine lv_lload hx hb dX1_reckon_108 (lv_at hl 0 rfl) ?_
                    refine lv_lconst (v := 0) hx hb dX1_reckon_110 (by decide) ?_
                    refine g_lc_ge (tgt := 119) hx hb dX1_reckon_111 dX1_reckon_112 (by decide) (fun c_137 => ?_) (fun c_137 => ?_)
                    · refine lv_iconst (v := 0) hx hb dX1_reckon_119 (by decide) ?_
                      refine lv_lload hx hb dX1_reckon_120 (lv_at hl 0 rfl) ?_
                      refine g_callSl S hs (tX1_size l t ((u.2.1 a.toNatClampNeg) - (u.2.1 b.toNatClampNeg))) ml_X1_39 st_yX1_size in_X1 cd_yX1_size hd_yX1_size ⟨by decide, by decide⟩ hE hS hA hl.1 rfl (Nat.le_of_ble_eq_true rfl) ⟨by decide, by decide⟩ dX1_reckon_122 (fun r_138 hr_138 => ?_)
                      subst hr_138
                      refine lv_iconst (v := 3) hx hb dX1_reckon_125 (by decide) ?_
                      refine g_callMl S hs (tX1_put l t D m0 m1 m2 cJ cI ((0 : Int32), u.2.1, u.2.2) r (0 : Int32) (jX1_size ((u.2.1 a.toNatClampNeg) - (u.2.1 b.toNatClampNeg))) (3 : Int32) (out_in (by assumption))) rfl ml_X1_43 im_yX1_put se_yX1_put cd_yX1_put hd_yX1_put ⟨by decide, by decide⟩ hE hS hA hP hK hD hl.1 rfl (Nat.le_of_ble_eq_true rfl) ⟨by decide, by decide⟩ dX1_reckon_126 (fun r_139 u_139 H locs hr_139 hP hD hS => ?_)
                      obtain ⟨rfl, rfl⟩ := hr_139
                      exact W.lret (v := (kput ((0 : Int32), u.2.1, u.2.2) r (0 : Int32) (jX1_size ((u.2.1 a.toNatClampNeg) - (u.2.1 b.toNatClampNeg))) (3 : Int32)).1) hx hb hr (fun t9 ht9 hW9 => ⟨⟨(kput ((0 : Int32), u.2.1, u.2.2) r (0 : Int32) (jX1_size ((u.2.1 a.toNatClampNeg) - (u.2.1 b.toNatClampNeg))) (3 : Int32)).1, (kput ((0 : Int32), u.2.1, u.2.2) r (0 : Int32) (jX1_size ((u.2.1 a.toNatClampNeg) - (u.2.1 b.toNatClampNeg))) (3 : Int32)).2, rfl, (⟨by rw [kreckon, if_pos c_2, if_neg c_4, if_neg c_6, if_pos c_9, if_pos c_12, if_neg c_13, if_neg c_53, if_neg c_54, if_neg c_136, if_pos c_137], by rw [kreckon, if_pos c_2, if_neg c_4, if_neg c_6, if_pos c_9, if_pos c_12, if_neg c_13, if_neg c_53, if_neg c_54, if_neg c_136, if_pos c_137]⟩), by rw [ht9]; exact hP, va_K.moved hW9.alike hK, hD⟩, hS.F ht9⟩) hS.2.2 dX1_reckon_129 hlocks
                    · refine lv_iconst (v := 1) hx hb dX1_reckon_115 (by decide) ?_
                      refine lv_goto (tgt := 120) hx hb dX1_reckon_116 (by decide) ?_
                      refine lv_lload hx hb dX1_reckon_120 (lv_at hl 0 rfl) ?_
                      refine g_callSl S hs (tX1_size l t ((u.2.1 a.toNatClampNeg) - (u.2.1 b.toNatClampNeg))) ml_X1_39 st_yX1_size in_X1 cd_yX1_size hd_yX1_size ⟨by decide, by decide⟩ hE hS hA hl.1 rfl (Nat.le_of_ble_eq_true rfl) ⟨by decide, by decide⟩ dX1_reckon_122 (fun r_140 hr_140 => ?_)
                      subst hr_140
                      refine lv_iconst (v := 3) hx hb dX1_reckon_125 (by decide) ?_
                      refine g_callMl S hs (tX1_put l t D m0 m1 m2 cJ cI ((0 : Int32), u.2.1, u.2.2) r (1 : Int32) (jX1_size ((u.2.1 a.toNatClampNeg) - (u.2.1 b.toNatClampNeg))) (3 : Int32) (out_in (by assumption))) rfl ml_X1_43 im_yX1_put se_yX1_put cd_yX1_put hd_yX1_put ⟨by decide, by decide⟩ hE hS hA hP hK hD hl.1 rfl (Nat.le_of_ble_eq_true rfl) ⟨by decide, by decide⟩ dX1_reckon_126 (fun r_141 u_141 H locs hr_141 hP hD hS => ?_)
                      obtain ⟨rfl, rfl⟩ := hr_141
                      exact W.lret (v := (kput ((0 : Int32), u.2.1, u.2.2) r (1 : Int32) (jX1_size ((u.2.1 a.toNatClampNeg) - (u.2.1 b.toNatClampNeg))) (3 : Int32)).1) hx hb hr (fun t9 ht9 hW9 => ⟨⟨(kput ((0 : Int32), u.2.1, u.2.2) r (1 : Int32) (jX1_size ((u.2.1 a.toNatClampNeg) - (u.2.1 b.toNatClampNeg))) (3 : Int32)).1, (kput ((0 : Int32), u.2.1, u.2.2) r (1 : Int32) (jX1_size ((u.2.1 a.toNatClampNeg) - (u.2.1 b.toNatClampNeg))) (3 : Int32)).2, rfl, (⟨by rw [kreckon, if_pos c_2, if_neg c_4, if_neg c_6, if_pos c_9, if_pos c_12, if_neg c_13, if_neg c_53, if_neg c_54, if_neg c_136, if_neg c_137], by rw [kreckon, if_pos c_2, if_neg c_4, if_neg c_6, if_pos c_9, if_pos c_12, if_neg c_13, if_neg c_53, if_neg c_54, if_neg c_136, if_neg c_137]⟩), by rw [ht9]; exact hP, va_K.moved hW9.alike hK, hD⟩, hS.F ht9⟩) hS.2.2 dX1_reckon_129 hlocks
                  · refine lv_lload hx hb dX1_reckon_91 (lv_at hl 1 rfl) ?_
                    refine lv_lload hx hb dX1_reckon_93 (lv_at hl 0 rfl) ?_
                    refine lv_ladd hx hb dX1_reckon_95 ?_
                    refine lv_goto (tgt := 104) hx hb dX1_reckon_96 (by decide) ?_
                    refine lv_lstore (lv' := [(9, .long ((u.2.1 a.toNatClampNeg) + (u.2.1 b.toNatClampNeg))), (7, .long (u.2.1 b.toNatClampNeg)), (5, .long (u.2.1 a.toNatClampNeg)), (0, .ref m0), (1, .int r), (2, .int op), (3, .int a), (4, .int b)]) hx hb dX1_reckon_104 hl (by decide) rfl (fun ls hl => ?_)
                    refine lv_aload_n hx hb dX1_reckon_106 rfl (lv_at hl 3 rfl) ?_
                    refine lv_iload_n hx hb dX1_reckon_107 rfl (lv_at hl 4 rfl) ?_
                    refine lv_lload hx hb dX1_reckon_108 (lv_at hl 0 rfl) ?_
                    refine lv_lconst (v := 0) hx hb dX1_reckon_110 (by decide) ?_
                    refine g_lc_ge (tgt := 119) hx hb dX1_reckon_111 dX1_reckon_112 (by decide) (fun c_142 => ?_) (fun c_142 => ?_)
                    · refine lv_iconst (v := 0) hx hb dX1_reckon_119 (by decide) ?_
                      refine lv_lload hx hb dX1_reckon_120 (lv_at hl 0 rfl) ?_
                      refine g_callSl S hs (tX1_size l t ((u.2.1 a.toNatClampNeg) + (u.2.1 b.toNatClampNeg))) ml_X1_39 st_yX1_size in_X1 cd_yX1_size hd_yX1_size ⟨by decide, by decide⟩ hE hS hA hl.1 rfl (Nat.le_of_ble_eq_true rfl) ⟨by decide, by decide⟩ dX1_reckon_122 (fun r_143 hr_143 => ?_)
                      subst hr_143
                      refine lv_iconst (v := 3) hx hb dX1_reckon_125 (by decide) ?_
                      refine g_callMl S hs (tX1_put l t D m0 m1 m2 cJ cI ((0 : Int32), u.2.1, u.2.2) r (0 : Int32) (jX1_size ((u.2.1 a.toNatClampNeg) + (u.2.1 b.toNatClampNeg))) (3 : Int32) (out_in (by assumption))) rfl ml_X1_43 im_yX1_put se_yX1_put cd_yX1_put hd_yX1_put ⟨by decide, by decide⟩ hE hS hA hP hK hD hl.1 rfl (Nat.le_of_ble_eq_true rfl) ⟨by decide, by decide⟩ dX1_reckon_126 (fun r_144 u_144 H locs hr_144 hP hD hS => ?_)
                      obtain ⟨rfl, rfl⟩ := hr_144
                      exact W.lret (v := (kput ((0 : Int32), u.2.1, u.2.2) r (0 : Int32) (jX1_size ((u.2.1 a.toNatClampNeg) + (u.2.1 b.toNatClampNeg))) (3 : Int32)).1) hx hb hr (fun t9 ht9 hW9 => ⟨⟨(kput ((0 : Int32), u.2.1, u.2.2) r (0 : Int32) (jX1_size ((u.2.1 a.toNatClampNeg) + (u.2.1 b.toNatClampNeg))) (3 : Int32)).1, (kput ((0 : Int32), u.2.1, u.2.2) r (0 : Int32) (jX1_size ((u.2.1 a.toNatClampNeg) + (u.2.1 b.toNatClampNeg))) (3 : Int32)).2, rfl, (⟨by rw [kreckon, if_pos c_2, if_neg c_4, if_neg c_6, if_pos c_9, if_pos c_12, if_neg c_13, if_neg c_53, if_neg c_54, if_pos c_136, if_pos c_142], by rw [kreckon, if_pos c_2, if_neg c_4, if_neg c_6, if_pos c_9, if_pos c_12, if_neg c_13, if_neg c_53, if_neg c_54, if_pos c_136, if_pos c_142]⟩), by rw [ht9]; exact hP, va_K.moved hW9.alike hK, hD⟩, hS.F ht9⟩) hS.2.2 dX1_reckon_129 hlocks
                    · refine lv_iconst (v := 1) hx hb dX1_reckon_115 (by decide) ?_
                      refine lv_goto (tgt := 120) hx hb dX1_reckon_116 (by decide) ?_
                      refine lv_lload hx hb dX1_reckon_120 (lv_at hl 0 rfl) ?_
                      refine g_callSl S hs (tX1_size l t ((u.2.1 a.toNatClampNeg) + (u.2.1 b.toNatClampNeg))) ml_X1_39 st_yX1_size in_X1 cd_yX1_size hd_yX1_size ⟨by decide, by decide⟩ hE hS hA hl.1 rfl (Nat.le_of_ble_eq_true rfl) ⟨by decide, by decide⟩ dX1_reckon_122 (fun r_145 hr_145 => ?_)
                      subst hr_145
                      refine lv_iconst (v := 3) hx hb dX1_reckon_125 (by decide) ?_
                      refine g_callMl S hs (tX1_put l t D m0 m1 m2 cJ cI ((0 : Int32), u.2.1, u.2.2) r (1 : Int32) (jX1_size ((u.2.1 a.toNatClampNeg) + (u.2.1 b.toNatClampNeg))) (3 : Int32) (out_in (by assumption))) rfl ml_X1_43 im_yX1_put se_yX1_put cd_yX1_put hd_yX1_put ⟨by decide, by decide⟩ hE hS hA hP hK hD hl.1 rfl (Nat.le_of_ble_eq_true rfl) ⟨by decide, by decide⟩ dX1_reckon_126 (fun r_146 u_146 H locs hr_146 hP hD hS => ?_)
                      obtain ⟨rfl, rfl⟩ := hr_146
                      exact W.lret (v := (kput ((0 : Int32), u.2.1, u.2.2) r (1 : Int32) (jX1_size ((u.2.1 a.toNatClampNeg) + (u.2.1 b.toNatClampNeg))) (3 : Int32)).1) hx hb hr (fun t9 ht9 hW9 => ⟨⟨(kput ((0 : Int32), u.2.1, u.2.2) r (1 : Int32) (jX1_size ((u.2.1 a.toNatClampNeg) + (u.2.1 b.toNatClampNeg))) (3 : Int32)).1, (kput ((0 : Int32), u.2.1, u.2.2) r (1 : Int32) (jX1_size ((u.2.1 a.toNatClampNeg) + (u.2.1 b.toNatClampNeg))) (3 : Int32)).2, rfl, (⟨by rw [kreckon, if_pos c_2, if_neg c_4, if_neg c_6, if_pos c_9, if_pos c_12, if_neg c_13, if_neg c_53, if_neg c_54, if_pos c_136, if_neg c_142], by rw [kreckon, if_pos c_2, if_neg c_4, if_neg c_6, if_pos c_9, if_pos c_12, if_neg c_13, if_neg c_53, if_neg c_54, if_pos c_136, if_neg c_142]⟩), by rw [ht9]; exact hP, va_K.moved hW9.alike hK, hD⟩, hS.F ht9⟩) hS.2.2 dX1_reckon_129 hlocks
              · refine lv_aload_n hx hb dX1_reckon_75 rfl (lv_at hl 2 rfl) ?_
                refine lv_iconst (v := 2) hx hb dX1_reckon_76 (by decide) ?_
                refine g_callMi S hs (tX1_fail l t D m0 m1 m2 cJ cI ((0 : Int32), u.2.1, u.2.2) (2 : Int32)) rfl ml_X1_29 im_yX1_fail se_yX1_fail cd_yX1_fail hd_yX1_fail ⟨by decide, by decide⟩ hE hS hA hP hK hD hl.1 rfl (Nat.le_of_ble_eq_true rfl) ⟨by decide, by decide⟩ dX1_reckon_77 (fun r_147 u_147 H locs hr_147 hP hD hS => ?_)
                obtain ⟨rfl, rfl⟩ := hr_147
                refine lv_i2l hx hb dX1_reckon_80 rfl ?_
                exact W.lret (v := ((kfail ((0 : Int32), u.2.1, u.2.2) (2 : Int32)).1).toInt64) hx hb hr (fun t9 ht9 hW9 => ⟨⟨((kfail ((0 : Int32), u.2.1, u.2.2) (2 : Int32)).1).toInt64, (kfail ((0 : Int32), u.2.1, u.2.2) (2 : Int32)).2, rfl, (⟨by rw [kreckon, if_pos c_2, if_neg c_4, if_neg c_6, if_pos c_9, if_pos c_12, if_neg c_13, if_pos c_53], by rw [kreckon, if_pos c_2, if_neg c_4, if_neg c_6, if_pos c_9, if_pos c_12, if_neg c_13, if_pos c_53]⟩), by rw [ht9]; exact hP, va_K.moved hW9.alike hK, hD⟩, hS.F ht9⟩) hS.2.2 dX1_reckon_81 hlocks
          · refine lv_aload_n hx hb dX1_reckon_39 rfl (lv_at hl 0 rfl) ?_
            refine lv_iconst (v := 1) hx hb dX1_reckon_40 (by decide) ?_
            refine g_callMi S hs (tX1_fail l t D m0 m1 m2 cJ cI ((0 : Int32), u.2.1, u.2.2) (1 : Int32)) rfl ml_X1_29 im_yX1_fail se_yX1_fail cd_yX1_fail hd_yX1_fail ⟨by decide, by decide⟩ hE hS hA hP hK hD hl.1 rfl (Nat.le_of_ble_eq_true rfl) ⟨by decide, by decide⟩ dX1_reckon_41 (fun r_148 u_148 H locs hr_148 hP hD hS => ?_)
            obtain ⟨rfl, rfl⟩ := hr_148
            refine lv_i2l hx hb dX1_reckon_44 rfl ?_
            exact W.lret (v := ((kfail ((0 : Int32), u.2.1, u.2.2) (1 : Int32)).1).toInt64) hx hb hr (fun t9 ht9 hW9 => ⟨⟨((kfail ((0 : Int32), u.2.1, u.2.2) (1 : Int32)).1).toInt64, (kfail ((0 : Int32), u.2.1, u.2.2) (1 : Int32)).2, rfl, (⟨by rw [kreckon, if_pos c_2, if_neg c_4, if_neg c_6, if_pos c_9, if_neg c_12], by rw [kreckon, if_pos c_2, if_neg c_4, if_neg c_6, if_pos c_9, if_neg c_12]⟩), by rw [ht9]; exact hP, va_K.moved hW9.alike hK, hD⟩, hS.F ht9⟩) hS.2.2 dX1_reckon_45 hlocks
def kturn (u : mS) (r : Int32) (op : Int32) (a : Int32) : Int64 × mS :=
  if (kout r) = (0 : Int32) then
    if op < (0 : Int32) then
      (((kfail ((0 : Int32), u.2.1, u.2.2) (1 : Int32)).1).toInt64, (kfail ((0 : Int32), u.2.1, u.2.2) (1 : Int32)).2)
    else if (3 : Int32) < op then
      (((kfail ((0 : Int32), u.2.1, u.2.2) (1 : Int32)).1).toInt64, (kfail ((0 : Int32), u.2.1, u.2.2) (1 : Int32)).2)
    else if (kout a) = (0 : Int32) then
      if op = (0 : Int32) then
        if (0 : Int64) ≤ (u.2.1 a.toNatClampNeg) then
          ((kput ((0 : Int32), u.2.1, u.2.2) r (0 : Int32) (((jX1_size (u.2.1 a.toNatClampNeg)) + (50 : Int64)) / (100 : Int64)) (2 : Int32)).1, (kput ((0 : Int32), u.2.1, u.2.2) r (0 : Int32) (((jX1_size (u.2.1 a.toNatClampNeg)) + (50 : Int64)) / (100 : Int64)) (2 : Int32)).2)
        else ((kput ((0 : Int32), u.2.1, u.2.2) r (1 : Int32) (((jX1_size (u.2.1 a.toNatClampNeg)) + (50 : Int64)) / (100 : Int64)) (2 : Int32)).1, (kput ((0 : Int32), u.2.1, u.2.2) r (1 : Int32) (((jX1_size (u.2.1 a.toNatClampNeg)) + (50 : Int64)) / (100 : Int64)) (2 : Int32)).2)
      else if op = (2 : Int32) then
        ((kput ((0 : Int32), u.2.1, u.2.2) r (0 : Int32) (jX1_size (u.2.1 a.toNatClampNeg)) (2 : Int32)).1, (kput ((0 : Int32), u.2.1, u.2.2) r (0 : Int32) (jX1_size (u.2.1 a.toNatClampNeg)) (2 : Int32)).2)
      else if op = (3 : Int32) then
        if (u.2.1 a.toNatClampNeg) ≤ (0 : Int64) then
          ((kput ((0 : Int32), u.2.1, u.2.2) r (0 : Int32) (jX1_size (u.2.1 a.toNatClampNeg)) (2 : Int32)).1, (kput ((0 : Int32), u.2.1, u.2.2) r (0 : Int32) (jX1_size (u.2.1 a.toNatClampNeg)) (2 : Int32)).2)
        else ((kput ((0 : Int32), u.2.1, u.2.2) r (1 : Int32) (jX1_size (u.2.1 a.toNatClampNeg)) (2 : Int32)).1, (kput ((0 : Int32), u.2.1, u.2.2) r (1 : Int32) (jX1_size (u.2.1 a.toNatClampNeg)) (2 : Int32)).2)
      else if (0 : Int64) ≤ (u.2.1 a.toNatClampNeg) then
        ((kput ((0 : Int32), u.2.1, u.2.2) r (0 : Int32) (((jX1_size (u.2.1 a.toNatClampNeg)) / (10000 : Int64)) * (10000 : Int64)) (2 : Int32)).1, (kput ((0 : Int32), u.2.1, u.2.2) r (0 : Int32) (((jX1_size (u.2.1 a.toNatClampNeg)) / (10000 : Int64)) * (10000 : Int64)) (2 : Int32)).2)
      else if (jX1_size (u.2.1 a.toNatClampNeg)) ≤ (((jX1_size (u.2.1 a.toNatClampNeg)) / (10000 : Int64)) * (10000 : Int64)) then
        ((kput ((0 : Int32), u.2.1, u.2.2) r (1 : Int32) (((jX1_size (u.2.1 a.toNatClampNeg)) / (10000 : Int64)) * (10000 : Int64)) (2 : Int32)).1, (kput ((0 : Int32), u.2.1, u.2.2) r (1 : Int32) (((jX1_size (u.2.1 a.toNatClampNeg)) / (10000 : Int64)) * (10000 : Int64)) (2 : Int32)).2)
      else ((kput ((0 : Int32), u.2.1, u.2.2) r (1 : Int32) ((((jX1_size (u.2.1 a.toNatClampNeg)) / (10000 : Int64)) * (10000 : Int64)) + (10000 : Int64)) (2 : Int32)).1, (kput ((0 : Int32), u.2.1, u.2.2) r (1 : Int32) ((((jX1_size (u.2.1 a.toNatClampNeg)) / (10000 : Int64)) * (10000 : Int64)) + (10000 : Int64)) (2 : Int32)).2)
    else (((kfail ((0 : Int32), u.2.1, u.2.2) (1 : Int32)).1).toInt64, (kfail ((0 : Int32), u.2.1, u.2.2) (1 : Int32)).2)
  else (((kfail ((0 : Int32), u.2.1, u.2.2) (1 : Int32)).1).toInt64, (kfail ((0 : Int32), u.2.1, u.2.2) (1 : Int32)).2)
set_option maxHeartbeats 4000000 in
set_option maxRecDepth 100000 in
theorem tX1_turn (l : Launch) (t : Nat) (D : va_G) (m0 m1 m2 : Nat) (cJ cI : ClassId) (u : mS) (r : Int32) (op : Int32) (a : Int32) : gMl l yX1_turn cX1_turn 8 { frames := 2, cells := 0, slots := 0, locals := 60 } t D m0 m1 m2 cJ cI u [.int r, .int op, .int a] (fun z9 u9 => z9 = (kturn u r op a).1 ∧ u9 = (kturn u r op a).2) := by
  refine g_openMl (by decide +kernel) (Nat.le_of_ble_eq_true rfl) ?_
  intro p e s m below meth c ls A hA S hr hlocks hE hP hK hD hl
  obtain ⟨hx, hb, hml, hown, hts⟩ := id S
  have hs : ∀ w ∈ gws, w ∈ Cond.code yX1_turn cX1_turn 8 (some .long) :: gws := fun w h => List.mem_cons_of_mem _ h
  have hS : va_S A s.heap s.heap [] := va_S.rf
  have hl : lv_has ls 8 [(0, .ref m0), (1, .int r), (2, .int op), (3, .int a)] := hl
  refine lv_aload_n hx hb dX1_turn_0 rfl (lv_at hl 0 rfl) ?_
  refine lv_iconst (v := 0) hx hb dX1_turn_1 (by decide) ?_
  refine va_put (ci := 1) (v := .int (0 : Int32)) (ty := .int) (C := RX1) (T := TX1) (N := 3) hx hb hts (fun w h => hs _ (inX1g w h)) tyX1 tyX1_ok nmX1 hown hK hP hD hS 0 rfl rfl 0 (by decide) (hts _ (hs _ fl_X1_17)) (fun _ h9 => h9) rfl (by decide +kernel) rfl rfl (Nat.le_of_ble_eq_true rfl) dX1_turn_2 (fun H locs hP hD hS => ?_)
  have hP : va_P D vwCl (wM m0 m1 m2 cJ cI ((0 : Int32), u.2.1, u.2.2)) H := hP
  have hD : va_D A (wM m0 m1 m2 cJ cI ((0 : Int32), u.2.1, u.2.2)) := hD
  refine lv_aload_n hx hb dX1_turn_5 rfl (lv_at hl 0 rfl) ?_
  refine lv_iload_n hx hb dX1_turn_6 rfl (lv_at hl 1 rfl) ?_
  refine g_callPi S hs (tX1_out l m0 r) (va_recv hK hP (ci := 1) (q0 := 0) rfl rfl) ml_X1_21 im_yX1_out se_yX1_out in_X1 cd_yX1_out hd_yX1_out ⟨by decide, by decide⟩ hl.1 rfl (Nat.le_of_ble_eq_true rfl) ⟨by decide, by decide⟩ dX1_turn_7 (fun r_1 hr_1 => ?_)
  subst hr_1
  refine lv_if_ne (tgt := 30) hx hb dX1_turn_10 (by decide) (fun c_2 => ?_) (fun c_2 => ?_)
  · refine lv_aload_n hx hb dX1_turn_30 rfl (lv_at hl 0 rfl) ?_
    refine lv_iconst (v := 1) hx hb dX1_turn_31 (by decide) ?_
    refine g_callMi S hs (tX1_fail l t D m0 m1 m2 cJ cI ((0 : Int32), u.2.1, u.2.2) (1 : Int32)) rfl ml_X1_29 im_yX1_fail se_yX1_fail cd_yX1_fail hd_yX1_fail ⟨by decide, by decide⟩ hE hS hA hP hK hD hl.1 rfl (Nat.le_of_ble_eq_true rfl) ⟨by decide, by decide⟩ dX1_turn_32 (fun r_3 u_3 H locs hr_3 hP hD hS => ?_)
    obtain ⟨rfl, rfl⟩ := hr_3
    refine lv_i2l hx hb dX1_turn_35 rfl ?_
    exact W.lret (v := ((kfail ((0 : Int32), u.2.1, u.2.2) (1 : Int32)).1).toInt64) hx hb hr (fun t9 ht9 hW9 => ⟨⟨((kfail ((0 : Int32), u.2.1, u.2.2) (1 : Int32)).1).toInt64, (kfail ((0 : Int32), u.2.1, u.2.2) (1 : Int32)).2, rfl, (⟨by rw [kturn, if_neg c_2], by rw [kturn, if_neg c_2]⟩), by rw [ht9]; exact hP, va_K.moved hW9.alike hK, hD⟩, hS.F ht9⟩) hS.2.2 dX1_turn_36 hlocks
  · refine lv_iload_n hx hb dX1_turn_13 rfl (lv_at hl 2 rfl) ?_
    refine lv_if_lt (tgt := 30) hx hb dX1_turn_14 (by decide) (fun c_4 => ?_) (fun c_4 => ?_)
    · refine lv_aload_n hx hb dX1_turn_30 rfl (lv_at hl 0 rfl) ?_
      refine lv_iconst (v := 1) hx hb dX1_turn_31 (by decide) ?_
      refine g_callMi S hs (tX1_fail l t D m0 m1 m2 cJ cI ((0 : Int32), u.2.1, u.2.2) (1 : Int32)) rfl ml_X1_29 im_yX1_fail se_yX1_fail cd_yX1_fail hd_yX1_fail ⟨by decide, by decide⟩ hE hS hA hP hK hD hl.1 rfl (Nat.le_of_ble_eq_true rfl) ⟨by decide, by decide⟩ dX1_turn_32 (fun r_5 u_5 H locs hr_5 hP hD hS => ?_)
      obtain ⟨rfl, rfl⟩ := hr_5
      refine lv_i2l hx hb dX1_turn_35 rfl ?_
      exact W.lret (v := ((kfail ((0 : Int32), u.2.1, u.2.2) (1 : Int32)).1).toInt64) hx hb hr (fun t9 ht9 hW9 => ⟨⟨((kfail ((0 : Int32), u.2.1, u.2.2) (1 : Int32)).1).toInt64, (kfail ((0 : Int32), u.2.1, u.2.2) (1 : Int32)).2, rfl, (⟨by rw [kturn, if_pos c_2, if_pos c_4], by rw [kturn, if_pos c_2, if_pos c_4]⟩), by rw [ht9]; exact hP, va_K.moved hW9.alike hK, hD⟩, hS.F ht9⟩) hS.2.2 dX1_turn_36 hlocks
    · refine lv_iload_n hx hb dX1_turn_17 rfl (lv_at hl 2 rfl) ?_
      refine lv_iconst (v := 3) hx hb dX1_turn_18 (by decide) ?_
      refine lv_icmp_gt (tgt := 30) hx hb dX1_turn_19 (by decide) (fun c_6 => ?_) (fun c_6 => ?_)
      · refine lv_aload_n hx hb dX1_turn_30 rfl (lv_at hl 0 rfl) ?_
        refine lv_iconst (v := 1) hx hb dX1_turn_31 (by decide) ?_
        refine g_callMi S hs (tX1_fail l t D m0 m1 m2 cJ cI ((0 : Int32), u.2.1, u.2.2) (1 : Int32)) rfl ml_X1_29 im_yX1_fail se_yX1_fail cd_yX1_fail hd_yX1_fail ⟨by decide, by decide⟩ hE hS hA hP hK hD hl.1 rfl (Nat.le_of_ble_eq_true rfl) ⟨by decide, by decide⟩ dX1_turn_32 (fun r_7 u_7 H locs hr_7 hP hD hS => ?_)
        obtain ⟨rfl, rfl⟩ := hr_7
        refine lv_i2l hx hb dX1_turn_35 rfl ?_
        exact W.lret (v := ((kfail ((0 : Int32), u.2.1, u.2.2) (1 : Int32)).1).toInt64) hx hb hr (fun t9 ht9 hW9 => ⟨⟨((kfail ((0 : Int32), u.2.1, u.2.2) (1 : Int32)).1).toInt64, (kfail ((0 : Int32), u.2.1, u.2.2) (1 : Int32)).2, rfl, (⟨by rw [kturn, if_pos c_2, if_neg c_4, if_pos c_6], by rw [kturn, if_pos c_2, if_neg c_4, if_pos c_6]⟩), by rw [ht9]; exact hP, va_K.moved hW9.alike hK, hD⟩, hS.F ht9⟩) hS.2.2 dX1_turn_36 hlocks
      · refine lv_aload_n hx hb dX1_turn_22 rfl (lv_at hl 0 rfl) ?_
        refine lv_iload_n hx hb dX1_turn_23 rfl (lv_at hl 3 rfl) ?_
        refine g_callPi S hs (tX1_out l m0 a) (va_recv hK hP (ci := 1) (q0 := 0) rfl rfl) ml_X1_21 im_yX1_out se_yX1_out in_X1 cd_yX1_out hd_yX1_out ⟨by decide, by decide⟩ hl.1 rfl (Nat.le_of_ble_eq_true rfl) ⟨by decide, by decide⟩ dX1_turn_24 (fun r_8 hr_8 => ?_)
        subst hr_8
        refine lv_if_eq (tgt := 37) hx hb dX1_turn_27 (by decide) (fun c_9 => ?_) (fun c_9 => ?_)
        · refine lv_aload_n hx hb dX1_turn_37 rfl (lv_at hl 0 rfl) ?_
          refine va_get (ci := 1) (v := .ref m1) (C := RX1) (T := TX1) (N := 3) hx hb hts (fun w h => hs _ (inX1g w h)) hown hK hP 0 rfl rfl 1 (by decide) (hts _ (hs _ fl_X1_7)) (fun _ h9 => h9) rfl dX1_turn_38 ?_
          refine lv_iload_n hx hb dX1_turn_41 rfl (lv_at hl 3 rfl) ?_
          refine va_lald hx hb hK hP 1 0 rfl rfl (out_in c_9) dX1_turn_42 ?_
          refine lv_lstore (lv' := [(4, .long (u.2.1 a.toNatClampNeg)), (0, .ref m0), (1, .int r), (2, .int op), (3, .int a)]) hx hb dX1_turn_43 hl (by decide) rfl (fun ls hl => ?_)
          refine lv_iload_n hx hb dX1_turn_45 rfl (lv_at hl 3 rfl) ?_
          refine lv_if_ne (tgt := 81) hx hb dX1_turn_46 (by decide) (fun c_10 => ?_) (fun c_10 => ?_)
          · refine lv_iload_n hx hb dX1_turn_81 rfl (lv_at hl 3 rfl) ?_
            refine lv_iconst (v := 2) hx hb dX1_turn_82 (by decide) ?_
            refine lv_icmp_ne (tgt := 99) hx hb dX1_turn_83 (by decide) (fun c_11 => ?_) (fun c_11 => ?_)
            · refine lv_iload_n hx hb dX1_turn_99 rfl (lv_at hl 3 rfl) ?_
              refine lv_iconst (v := 3) hx hb dX1_turn_100 (by decide) ?_
              refine lv_icmp_ne (tgt := 128) hx hb dX1_turn_101 (by decide) (fun c_12 => ?_) (fun c_12 => ?_)
              · refine lv_lload hx hb dX1_turn_128 (lv_at hl 0 rfl) ?_
                refine g_callSl S hs (tX1_size l t (u.2.1 a.toNatClampNeg)) ml_X1_39 st_yX1_size in_X1 cd_yX1_size hd_yX1_size ⟨by decide, by decide⟩ hE hS hA hl.1 rfl (Nat.le_of_ble_eq_true rfl) ⟨by decide, by decide⟩ dX1_turn_130 (fun r_13 hr_13 => ?_)
                subst hr_13
                refine lv_ldc2 hx hb hown (hts _ (hs _ kl_X1_33)) dX1_turn_133 ?_
                refine lv_ldiv hx hb dX1_turn_136 (by decide) ?_
                refine lv_ldc2 hx hb hown (hts _ (hs _ kl_X1_33)) dX1_turn_137 ?_
                refine lv_lmul hx hb dX1_turn_140 ?_
                refine lv_lstore (lv' := [(6, .long (((jX1_size (u.2.1 a.toNatClampNeg)) / (10000 : Int64)) * (10000 : Int64))), (4, .long (u.2.1 a.toNatClampNeg)), (0, .ref m0), (1, .int r), (2, .int op), (3, .int a)]) hx hb dX1_turn_141 hl (by decide) rfl (fun ls hl => ?_)
                refine lv_lload hx hb dX1_turn_143 (lv_at hl 1 rfl) ?_
                refine lv_lconst (v := 0) hx hb dX1_turn_145 (by decide) ?_
                refine g_lc_ge (tgt := 169) hx hb dX1_turn_146 dX1_turn_147 (by decide) (fun c_14 => ?_) (fun c_14 => ?_)
                · refine lv_aload_n hx hb dX1_turn_169 rfl (lv_at hl 2 rfl) ?_
                  refine lv_iload_n hx hb dX1_turn_170 rfl (lv_at hl 3 rfl) ?_
                  refine lv_lload hx hb dX1_turn_171 (lv_at hl 1 rfl) ?_
                  refine lv_lconst (v := 0) hx hb dX1_turn_173 (by decide) ?_
                  refine g_lc_ge (tgt := 182) hx hb dX1_turn_174 dX1_turn_175 (by decide) (fun c_15 => ?_) (fun c_15 => absurd (c_14) c_15)
                  refine lv_iconst (v := 0) hx hb dX1_turn_182 (by decide) ?_
                  refine lv_lload hx hb dX1_turn_183 (lv_at hl 0 rfl) ?_
                  refine lv_iconst (v := 2) hx hb dX1_turn_185 (by decide) ?_
                  refine g_callMl S hs (tX1_put l t D m0 m1 m2 cJ cI ((0 : Int32), u.2.1, u.2.2) r (0 : Int32) (((jX1_size (u.2.1 a.toNatClampNeg)) / (10000 : Int64)) * (10000 : Int64)) (2 : Int32) (out_in (by assumption))) rfl ml_X1_43 im_yX1_put se_yX1_put cd_yX1_put hd_yX1_put ⟨by decide, by decide⟩ hE hS hA hP hK hD hl.1 rfl (Nat.le_of_ble_eq_true rfl) ⟨by decide, by decide⟩ dX1_turn_186 (fun r_16 u_16 H locs hr_16 hP hD hS => ?_)
                  obtain ⟨rfl, rfl⟩ := hr_16
                  exact W.lret (v := (kput ((0 : Int32), u.2.1, u.2.2) r (0 : Int32) (((jX1_size (u.2.1 a.toNatClampNeg)) / (10000 : Int64)) * (10000 : Int64)) (2 : Int32)).1) hx hb hr (fun t9 ht9 hW9 => ⟨⟨(kput ((0 : Int32), u.2.1, u.2.2) r (0 : Int32) (((jX1_size (u.2.1 a.toNatClampNeg)) / (10000 : Int64)) * (10000 : Int64)) (2 : Int32)).1, (kput ((0 : Int32), u.2.1, u.2.2) r (0 : Int32) (((jX1_size (u.2.1 a.toNatClampNeg)) / (10000 : Int64)) * (10000 : Int64)) (2 : Int32)).2, rfl, (⟨by rw [kturn, if_pos c_2, if_neg c_4, if_neg c_6, if_pos c_9, if_neg c_10, if_neg c_11, if_neg c_12, if_pos c_14], by rw [kturn, if_pos c_2, if_neg c_4, if_neg c_6, if_pos c_9, if_neg c_10, if_neg c_11, if_neg c_12, if_pos c_14]⟩), by rw [ht9]; exact hP, va_K.moved hW9.alike hK, hD⟩, hS.F ht9⟩) hS.2.2 dX1_turn_189 hlocks
                · refine lv_lload hx hb dX1_turn_150 (lv_at hl 0 rfl) ?_
                  refine lv_lload hx hb dX1_turn_152 (lv_at hl 1 rfl) ?_
                  refine g_callSl S hs (tX1_size l t (u.2.1 a.toNatClampNeg)) ml_X1_39 st_yX1_size in_X1 cd_yX1_size hd_yX1_size ⟨by decide, by decide⟩ hE hS hA hl.1 rfl (Nat.le_of_ble_eq_true rfl) ⟨by decide, by decide⟩ dX1_turn_154 (fun r_17 hr_17 => ?_)
                  subst hr_17
                  refine g_lc_ge (tgt := 169) hx hb dX1_turn_157 dX1_turn_158 (by decide) (fun c_18 => ?_) (fun c_18 => ?_)
                  · refine lv_aload_n hx hb dX1_turn_169 rfl (lv_at hl 2 rfl) ?_
                    refine lv_iload_n hx hb dX1_turn_170 rfl (lv_at hl 3 rfl) ?_
                    refine lv_lload hx hb dX1_turn_171 (lv_at hl 1 rfl) ?_
                    refine lv_lconst (v := 0) hx hb dX1_turn_173 (by decide) ?_
                    refine g_lc_ge (tgt := 182) hx hb dX1_turn_174 dX1_turn_175 (by decide) (fun c_19 => absurd c_19 c_14) (fun c_19 => ?_)
                    refine lv_iconst (v := 1) hx hb dX1_turn_178 (by decide) ?_
                    refine lv_goto (tgt := 183) hx hb dX1_turn_179 (by decide) ?_
                    refine lv_lload hx hb dX1_turn_183 (lv_at hl 0 rfl) ?_
                    refine lv_iconst (v := 2) hx hb dX1_turn_185 (by decide) ?_
                    refine g_callMl S hs (tX1_put l t D m0 m1 m2 cJ cI ((0 : Int32), u.2.1, u.2.2) r (1 : Int32) (((jX1_size (u.2.1 a.toNatClampNeg)) / (10000 : Int64)) * (10000 : Int64)) (2 : Int32) (out_in (by assumption))) rfl ml_X1_43 im_yX1_put se_yX1_put cd_yX1_put hd_yX1_put ⟨by decide, by decide⟩ hE hS hA hP hK hD hl.1 rfl (Nat.le_of_ble_eq_true rfl) ⟨by decide, by decide⟩ dX1_turn_186 (fun r_20 u_20 H locs hr_20 hP hD hS => ?_)
                    obtain ⟨rfl, rfl⟩ := hr_20
                    exact W.lret (v := (kput ((0 : Int32), u.2.1, u.2.2) r (1 : Int32) (((jX1_size (u.2.1 a.toNatClampNeg)) / (10000 : Int64)) * (10000 : Int64)) (2 : Int32)).1) hx hb hr (fun t9 ht9 hW9 => ⟨⟨(kput ((0 : Int32), u.2.1, u.2.2) r (1 : Int32) (((jX1_size (u.2.1 a.toNatClampNeg)) / (10000 : Int64)) * (10000 : Int64)) (2 : Int32)).1, (kput ((0 : Int32), u.2.1, u.2.2) r (1 : Int32) (((jX1_size (u.2.1 a.toNatClampNeg)) / (10000 : Int64)) * (10000 : Int64)) (2 : Int32)).2, rfl, (⟨by rw [kturn, if_pos c_2, if_neg c_4, if_neg c_6, if_pos c_9, if_neg c_10, if_neg c_11, if_neg c_12, if_neg c_14, if_pos c_18], by rw [kturn, if_pos c_2, if_neg c_4, if_neg c_6, if_pos c_9, if_neg c_10, if_neg c_11, if_neg c_12, if_neg c_14, if_pos c_18]⟩), by rw [ht9]; exact hP, va_K.moved hW9.alike hK, hD⟩, hS.F ht9⟩) hS.2.2 dX1_turn_189 hlocks
                  · refine lv_lload hx hb dX1_turn_161 (lv_at hl 0 rfl) ?_
                    refine lv_ldc2 hx hb hown (hts _ (hs _ kl_X1_33)) dX1_turn_163 ?_
                    refine lv_ladd hx hb dX1_turn_166 ?_
                    refine lv_lstore (lv' := [(6, .long ((((jX1_size (u.2.1 a.toNatClampNeg)) / (10000 : Int64)) * (10000 : Int64)) + (10000 : Int64))), (4, .long (u.2.1 a.toNatClampNeg)), (0, .ref m0), (1, .int r), (2, .int op), (3, .int a)]) hx hb dX1_turn_167 hl (by decide) rfl (fun ls hl => ?_)
                    refine lv_aload_n hx hb dX1_turn_169 rfl (lv_at hl 2 rfl) ?_
                    refine lv_iload_n hx hb dX1_turn_170 rfl (lv_at hl 3 rfl) ?_
                    refine lv_lload hx hb dX1_turn_171 (lv_at hl 1 rfl) ?_
                    refine lv_lconst (v := 0) hx hb dX1_turn_173 (by decide) ?_
                    refine g_lc_ge (tgt := 182) hx hb dX1_turn_174 dX1_turn_175 (by decide) (fun c_21 => absurd c_21 c_14) (fun c_21 => ?_)
                    refine lv_iconst (v := 1) hx hb dX1_turn_178 (by decide) ?_
                    refine lv_goto (tgt := 183) hx hb dX1_turn_179 (by decide) ?_
                    refine lv_lload hx hb dX1_turn_183 (lv_at hl 0 rfl) ?_
                    refine lv_iconst (v := 2) hx hb dX1_turn_185 (by decide) ?_
                    refine g_callMl S hs (tX1_put l t D m0 m1 m2 cJ cI ((0 : Int32), u.2.1, u.2.2) r (1 : Int32) ((((jX1_size (u.2.1 a.toNatClampNeg)) / (10000 : Int64)) * (10000 : Int64)) + (10000 : Int64)) (2 : Int32) (out_in (by assumption))) rfl ml_X1_43 im_yX1_put se_yX1_put cd_yX1_put hd_yX1_put ⟨by decide, by decide⟩ hE hS hA hP hK hD hl.1 rfl (Nat.le_of_ble_eq_true rfl) ⟨by decide, by decide⟩ dX1_turn_186 (fun r_22 u_22 H locs hr_22 hP hD hS => ?_)
                    obtain ⟨rfl, rfl⟩ := hr_22
                    exact W.lret (v := (kput ((0 : Int32), u.2.1, u.2.2) r (1 : Int32) ((((jX1_size (u.2.1 a.toNatClampNeg)) / (10000 : Int64)) * (10000 : Int64)) + (10000 : Int64)) (2 : Int32)).1) hx hb hr (fun t9 ht9 hW9 => ⟨⟨(kput ((0 : Int32), u.2.1, u.2.2) r (1 : Int32) ((((jX1_size (u.2.1 a.toNatClampNeg)) / (10000 : Int64)) * (10000 : Int64)) + (10000 : Int64)) (2 : Int32)).1, (kput ((0 : Int32), u.2.1, u.2.2) r (1 : Int32) ((((jX1_size (u.2.1 a.toNatClampNeg)) / (10000 : Int64)) * (10000 : Int64)) + (10000 : Int64)) (2 : Int32)).2, rfl, (⟨by rw [kturn, if_pos c_2, if_neg c_4, if_neg c_6, if_pos c_9, if_neg c_10, if_neg c_11, if_neg c_12, if_neg c_14, if_neg c_18], by rw [kturn, if_pos c_2, if_neg c_4, if_neg c_6, if_pos c_9, if_neg c_10, if_neg c_11, if_neg c_12, if_neg c_14, if_neg c_18]⟩), by rw [ht9]; exact hP, va_K.moved hW9.alike hK, hD⟩, hS.F ht9⟩) hS.2.2 dX1_turn_189 hlocks
              · refine lv_aload_n hx hb dX1_turn_104 rfl (lv_at hl 1 rfl) ?_
                refine lv_iload_n hx hb dX1_turn_105 rfl (lv_at hl 2 rfl) ?_
                refine lv_lload hx hb dX1_turn_106 (lv_at hl 0 rfl) ?_
                refine lv_lconst (v := 0) hx hb dX1_turn_108 (by decide) ?_
                refine g_lc_le (tgt := 117) hx hb dX1_turn_109 dX1_turn_110 (by decide) (fun c_23 => ?_) (fun c_23 => ?_)
                · refine lv_iconst (v := 0) hx hb dX1_turn_117 (by decide) ?_
                  refine lv_lload hx hb dX1_turn_118 (lv_at hl 0 rfl) ?_
                  refine g_callSl S hs (tX1_size l t (u.2.1 a.toNatClampNeg)) ml_X1_39 st_yX1_size in_X1 cd_yX1_size hd_yX1_size ⟨by decide, by decide⟩ hE hS hA hl.1 rfl (Nat.le_of_ble_eq_true rfl) ⟨by decide, by decide⟩ dX1_turn_120 (fun r_24 hr_24 => ?_)
                  subst hr_24
                  refine lv_iconst (v := 2) hx hb dX1_turn_123 (by decide) ?_
                  refine g_callMl S hs (tX1_put l t D m0 m1 m2 cJ cI ((0 : Int32), u.2.1, u.2.2) r (0 : Int32) (jX1_size (u.2.1 a.toNatClampNeg)) (2 : Int32) (out_in (by assumption))) rfl ml_X1_43 im_yX1_put se_yX1_put cd_yX1_put hd_yX1_put ⟨by decide, by decide⟩ hE hS hA hP hK hD hl.1 rfl (Nat.le_of_ble_eq_true rfl) ⟨by decide, by decide⟩ dX1_turn_124 (fun r_25 u_25 H locs hr_25 hP hD hS => ?_)
                  obtain ⟨rfl, rfl⟩ := hr_25
                  exact W.lret (v := (kput ((0 : Int32), u.2.1, u.2.2) r (0 : Int32) (jX1_size (u.2.1 a.toNatClampNeg)) (2 : Int32)).1) hx hb hr (fun t9 ht9 hW9 => ⟨⟨(kput ((0 : Int32), u.2.1, u.2.2) r (0 : Int32) (jX1_size (u.2.1 a.toNatClampNeg)) (2 : Int32)).1, (kput ((0 : Int32), u.2.1, u.2.2) r (0 : Int32) (jX1_size (u.2.1 a.toNatClampNeg)) (2 : Int32)).2, rfl, (⟨by rw [kturn, if_pos c_2, if_neg c_4, if_neg c_6, if_pos c_9, if_neg c_10, if_neg c_11, if_pos c_12, if_pos c_23], by rw [kturn, if_pos c_2, if_neg c_4, if_neg c_6, if_pos c_9, if_neg c_10, if_neg c_11, if_pos c_12, if_pos c_23]⟩), by rw [ht9]; exact hP, va_K.moved hW9.alike hK, hD⟩, hS.F ht9⟩) hS.2.2 dX1_turn_127 hlocks
                · refine lv_iconst (v := 1) hx hb dX1_turn_113 (by decide) ?_
                  refine lv_goto (tgt := 118) hx hb dX1_turn_114 (by decide) ?_
                  refine lv_lload hx hb dX1_turn_118 (lv_at hl 0 rfl) ?_
                  refine g_callSl S hs (tX1_size l t (u.2.1 a.toNatClampNeg)) ml_X1_39 st_yX1_size in_X1 cd_yX1_size hd_yX1_size ⟨by decide, by decide⟩ hE hS hA hl.1 rfl (Nat.le_of_ble_eq_true rfl) ⟨by decide, by decide⟩ dX1_turn_120 (fun r_26 hr_26 => ?_)
                  subst hr_26
                  refine lv_iconst (v := 2) hx hb dX1_turn_123 (by decide) ?_
                  refine g_callMl S hs (tX1_put l t D m0 m1 m2 cJ cI ((0 : Int32), u.2.1, u.2.2) r (1 : Int32) (jX1_size (u.2.1 a.toNatClampNeg)) (2 : Int32) (out_in (by assumption))) rfl ml_X1_43 im_yX1_put se_yX1_put cd_yX1_put hd_yX1_put ⟨by decide, by decide⟩ hE hS hA hP hK hD hl.1 rfl (Nat.le_of_ble_eq_true rfl) ⟨by decide, by decide⟩ dX1_turn_124 (fun r_27 u_27 H locs hr_27 hP hD hS => ?_)
                  obtain ⟨rfl, rfl⟩ := hr_27
                  exact W.lret (v := (kput ((0 : Int32), u.2.1, u.2.2) r (1 : Int32) (jX1_size (u.2.1 a.toNatClampNeg)) (2 : Int32)).1) hx hb hr (fun t9 ht9 hW9 => ⟨⟨(kput ((0 : Int32), u.2.1, u.2.2) r (1 : Int32) (jX1_size (u.2.1 a.toNatClampNeg)) (2 : Int32)).1, (kput ((0 : Int32), u.2.1, u.2.2) r (1 : Int32) (jX1_size (u.2.1 a.toNatClampNeg)) (2 : Int32)).2, rfl, (⟨by rw [kturn, if_pos c_2, if_neg c_4, if_neg c_6, if_pos c_9, if_neg c_10, if_neg c_11, if_pos c_12, if_neg c_23], by rw [kturn, if_pos c_2, if_neg c_4, if_neg c_6, if_pos c_9, if_neg c_10, if_neg c_11, if_pos c_12, if_neg c_23]⟩), by rw [ht9]; exact hP, va_K.moved hW9.alike hK, hD⟩, hS.F ht9⟩) hS.2.2 dX1_turn_127 hlocks
            · refine lv_aload_n hx hb dX1_turn_86 rfl (lv_at hl 1 rfl) ?_
              refine lv_iload_n hx hb dX1_turn_87 rfl (lv_at hl 2 rfl) ?_
              refine lv_iconst (v := 0) hx hb dX1_turn_88 (by decide) ?_
              refine lv_lload hx hb dX1_turn_89 (lv_at hl 0 rfl) ?_
              refine g_callSl S hs (tX1_size l t (u.2.1 a.toNatClampNeg)) ml_X1_39 st_yX1_size in_X1 cd_yX1_size hd_yX1_size ⟨by decide, by decide⟩ hE hS hA hl.1 rfl (Nat.le_of_ble_eq_true rfl) ⟨by decide, by decide⟩ dX1_turn_91 (fun r_28 hr_28 => ?_)
              subst hr_28
              refine lv_iconst (v := 2) hx hb dX1_turn_94 (by decide) ?_
              refine g_callMl S hs (tX1_put l t D m0 m1 m2 cJ cI ((0 : Int32), u.2.1, u.2.2) r (0 : Int32) (jX1_size (u.2.1 a.toNatClampNeg)) (2 : Int32) (out_in (by assumption))) rfl ml_X1_43 im_yX1_put se_yX1_put cd_yX1_put hd_yX1_put ⟨by decide, by decide⟩ hE hS hA hP hK hD hl.1 rfl (Nat.le_of_ble_eq_true rfl) ⟨by decide, by decide⟩ dX1_turn_95 (fun r_29 u_29 H locs hr_29 hP hD hS => ?_)
              obtain ⟨rfl, rfl⟩ := hr_29
              exact W.lret (v := (kput ((0 : Int32), u.2.1, u.2.2) r (0 : Int32) (jX1_size (u.2.1 a.toNatClampNeg)) (2 : Int32)).1) hx hb hr (fun t9 ht9 hW9 => ⟨⟨(kput ((0 : Int32), u.2.1, u.2.2) r (0 : Int32) (jX1_size (u.2.1 a.toNatClampNeg)) (2 : Int32)).1, (kput ((0 : Int32), u.2.1, u.2.2) r (0 : Int32) (jX1_size (u.2.1 a.toNatClampNeg)) (2 : Int32)).2, rfl, (⟨by rw [kturn, if_pos c_2, if_neg c_4, if_neg c_6, if_pos c_9, if_neg c_10, if_pos c_11], by rw [kturn, if_pos c_2, if_neg c_4, if_neg c_6, if_pos c_9, if_neg c_10, if_pos c_11]⟩), by rw [ht9]; exact hP, va_K.moved hW9.alike hK, hD⟩, hS.F ht9⟩) hS.2.2 dX1_turn_98 hlocks
          · refine lv_aload_n hx hb dX1_turn_49 rfl (lv_at hl 1 rfl) ?_
            refine lv_iload_n hx hb dX1_turn_50 rfl (lv_at hl 2 rfl) ?_
            refine lv_lload hx hb dX1_turn_51 (lv_at hl 0 rfl) ?_
            refine lv_lconst (v := 0) hx hb dX1_turn_53 (by decide) ?_
            refine g_lc_ge (tgt := 62) hx hb dX1_turn_54 dX1_turn_55 (by decide) (fun c_30 => ?_) (fun c_30 => ?_)
            · refine lv_iconst (v := 0) hx hb dX1_turn_62 (by decide) ?_
              refine lv_lload hx hb dX1_turn_63 (lv_at hl 0 rfl) ?_
              refine g_callSl S hs (tX1_size l t (u.2.1 a.toNatClampNeg)) ml_X1_39 st_yX1_size in_X1 cd_yX1_size hd_yX1_size ⟨by decide, by decide⟩ hE hS hA hl.1 rfl (Nat.le_of_ble_eq_true rfl) ⟨by decide, by decide⟩ dX1_turn_65 (fun r_31 hr_31 => ?_)
              subst hr_31
              refine lv_ldc2 hx hb hown (hts _ (hs _ kl_X1_54)) dX1_turn_68 ?_
              refine lv_ladd hx hb dX1_turn_71 ?_
              refine lv_ldc2 hx hb hown (hts _ (hs _ kl_X1_56)) dX1_turn_72 ?_
              refine lv_ldiv hx hb dX1_turn_75 (by decide) ?_
              refine lv_iconst (v := 2) hx hb dX1_turn_76 (by decide) ?_
              refine g_callMl S hs (tX1_put l t D m0 m1 m2 cJ cI ((0 : Int32), u.2.1, u.2.2) r (0 : Int32) (((jX1_size (u.2.1 a.toNatClampNeg)) + (50 : Int64)) / (100 : Int64)) (2 : Int32) (out_in (by assumption))) rfl ml_X1_43 im_yX1_put se_yX1_put cd_yX1_put hd_yX1_put ⟨by decide, by decide⟩ hE hS hA hP hK hD hl.1 rfl (Nat.le_of_ble_eq_true rfl) ⟨by decide, by decide⟩ dX1_turn_77 (fun r_32 u_32 H locs hr_32 hP hD hS => ?_)
              obtain ⟨rfl, rfl⟩ := hr_32
              exact W.lret (v := (kput ((0 : Int32), u.2.1, u.2.2) r (0 : Int32) (((jX1_size (u.2.1 a.toNatClampNeg)) + (50 : Int64)) / (100 : Int64)) (2 : Int32)).1) hx hb hr (fun t9 ht9 hW9 => ⟨⟨(kput ((0 : Int32), u.2.1, u.2.2) r (0 : Int32) (((jX1_size (u.2.1 a.toNatClampNeg)) + (50 : Int64)) / (100 : Int64)) (2 : Int32)).1, (kput ((0 : Int32), u.2.1, u.2.2) r (0 : Int32) (((jX1_size (u.2.1 a.toNatClampNeg)) + (50 : Int64)) / (100 : Int64)) (2 : Int32)).2, rfl, (⟨by rw [kturn, if_pos c_2, if_neg c_4, if_neg c_6, if_pos c_9, if_pos c_10, if_pos c_30], by rw [kturn, if_pos c_2, if_neg c_4, if_neg c_6, if_pos c_9, if_pos c_10, if_pos c_30]⟩), by rw [ht9]; exact hP, va_K.moved hW9.alike hK, hD⟩, hS.F ht9⟩) hS.2.2 dX1_turn_80 hlocks
            · refine lv_iconst (v := 1) hx hb dX1_turn_58 (by decide) ?_
              refine lv_goto (tgt := 63) hx hb dX1_turn_59 (by decide) ?_
              refine lv_lload hx hb dX1_turn_63 (lv_at hl 0 rfl) ?_
              refine g_callSl S hs (tX1_size l t (u.2.1 a.toNatClampNeg)) ml_X1_39 st_yX1_size in_X1 cd_yX1_size hd_yX1_size ⟨by decide, by decide⟩ hE hS hA hl.1 rfl (Nat.le_of_ble_eq_true rfl) ⟨by decide, by decide⟩ dX1_turn_65 (fun r_33 hr_33 => ?_)
              subst hr_33
              refine lv_ldc2 hx hb hown (hts _ (hs _ kl_X1_54)) dX1_turn_68 ?_
              refine lv_ladd hx hb dX1_turn_71 ?_
              refine lv_ldc2 hx hb hown (hts _ (hs _ kl_X1_56)) dX1_turn_72 ?_
              refine lv_ldiv hx hb dX1_turn_75 (by decide) ?_
              refine lv_iconst (v := 2) hx hb dX1_turn_76 (by decide) ?_
              refine g_callMl S hs (tX1_put l t D m0 m1 m2 cJ cI ((0 : Int32), u.2.1, u.2.2) r (1 : Int32) (((jX1_size (u.2.1 a.toNatClampNeg)) + (50 : Int64)) / (100 : Int64)) (2 : Int32) (out_in (by assumption))) rfl ml_X1_43 im_yX1_put se_yX1_put cd_yX1_put hd_yX1_put ⟨by decide, by decide⟩ hE hS hA hP hK hD hl.1 rfl (Nat.le_of_ble_eq_true rfl) ⟨by decide, by decide⟩ dX1_turn_77 (fun r_34 u_34 H locs hr_34 hP hD hS => ?_)
              obtain ⟨rfl, rfl⟩ := hr_34
              exact W.lret (v := (kput ((0 : Int32), u.2.1, u.2.2) r (1 : Int32) (((jX1_size (u.2.1 a.toNatClampNeg)) + (50 : Int64)) / (100 : Int64)) (2 : Int32)).1) hx hb hr (fun t9 ht9 hW9 => ⟨⟨(kput ((0 : Int32), u.2.1, u.2.2) r (1 : Int32) (((jX1_size (u.2.1 a.toNatClampNeg)) + (50 : Int64)) / (100 : Int64)) (2 : Int32)).1, (kput ((0 : Int32), u.2.1, u.2.2) r (1 : Int32) (((jX1_size (u.2.1 a.toNatClampNeg)) + (50 : Int64)) / (100 : Int64)) (2 : Int32)).2, rfl, (⟨by rw [kturn, if_pos c_2, if_neg c_4, if_neg c_6, if_pos c_9, if_pos c_10, if_neg c_30], by rw [kturn, if_pos c_2, if_neg c_4, if_neg c_6, if_pos c_9, if_pos c_10, if_neg c_30]⟩), by rw [ht9]; exact hP, va_K.moved hW9.alike hK, hD⟩, hS.F ht9⟩) hS.2.2 dX1_turn_80 hlocks
        · refine lv_aload_n hx hb dX1_turn_30 rfl (lv_at hl 0 rfl) ?_
          refine lv_iconst (v := 1) hx hb dX1_turn_31 (by decide) ?_
          refine g_callMi S hs (tX1_fail l t D m0 m1 m2 cJ cI ((0 : Int32), u.2.1, u.2.2) (1 : Int32)) rfl ml_X1_29 im_yX1_fail se_yX1_fail cd_yX1_fail hd_yX1_fail ⟨by decide, by decide⟩ hE hS hA hP hK hD hl.1 rfl (Nat.le_of_ble_eq_true rfl) ⟨by decide, by decide⟩ dX1_turn_32 (fun r_35 u_35 H locs hr_35 hP hD hS => ?_)
          obtain ⟨rfl, rfl⟩ := hr_35
          refine lv_i2l hx hb dX1_turn_35 rfl ?_
          exact W.lret (v := ((kfail ((0 : Int32), u.2.1, u.2.2) (1 : Int32)).1).toInt64) hx hb hr (fun t9 ht9 hW9 => ⟨⟨((kfail ((0 : Int32), u.2.1, u.2.2) (1 : Int32)).1).toInt64, (kfail ((0 : Int32), u.2.1, u.2.2) (1 : Int32)).2, rfl, (⟨by rw [kturn, if_pos c_2, if_neg c_4, if_neg c_6, if_neg c_9], by rw [kturn, if_pos c_2, if_neg c_4, if_neg c_6, if_neg c_9]⟩), by rw [ht9]; exact hP, va_K.moved hW9.alike hK, hD⟩, hS.F ht9⟩) hS.2.2 dX1_turn_36 hlocks
