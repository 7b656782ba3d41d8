def jset (f : Nat → Int64) (r : Int32) (n : Int64) : String ⊕ (Int64 × (Nat → Int64)) :=
  if (jX0_isRegister r) = (0 : Int32) then
    .inl gIAE
  else if (jX0_isNumber n) = (0 : Int32) then
    .inl gIAE
  else .inr (f r.toNatClampNeg, vp_updL f r.toNatClampNeg n)
set_option maxHeartbeats 4000000 in
set_option maxRecDepth 100000 in
theorem tX0_set (l : Launch) (hnt : l.stackTraces = false) (t : Nat) (D : va_G) (h0 h1 : Nat) (cJ : ClassId) (f : Nat → Int64) (r : Int32) (n : Int64) : gXl l yX0_set cX0_set 6 { frames := 6, cells := 1, slots := 6, locals := 90 } t D h0 h1 cJ f [.int r, .long n] (fun z9 f9 => jset f r n = .inr (z9, f9)) (fun E9 => jset f r n = .inl E9) := by
  refine g_openXl (by decide +kernel) (Nat.le_of_ble_eq_true rfl) ?_
  intro p e s m below meth c ls A _ hAA S hr hlocks hout hE hP hK hD hl
  obtain ⟨hx, hb, hml, hown, hts⟩ := id S
  have hs : ∀ w ∈ gws, w ∈ Cond.code yX0_set cX0_set 6 (some .long) :: gws := fun w h => List.mem_cons_of_mem _ h
  have hA : ∀ q, s.heap.size ≤ q → gN s.heap.size q := fun _ h => h
  have hS : va_S (gN s.heap.size) s.heap s.heap [] := va_S.rf
  have hSw : va_S A s.heap s.heap [] := va_S.rf
  have hl : lv_has ls 6 [(0, .ref h0), (1, .int r), (2, .long n)] := hl
  refine lv_iload_n hx hb dX0_set_0 rfl (lv_at hl 1 rfl) ?_
  refine g_callSi S hs (tX0_isRegister l t r) ml_X0_13 st_yX0_isRegister in_X0 cd_yX0_isRegister hd_yX0_isRegister ⟨by decide, by decide⟩ hE hS hA hl.1 rfl (Nat.le_of_ble_eq_true rfl) ⟨by decide, by decide⟩ dX0_set_1 (fun r_1 hr_1 => ?_)
  subst hr_1
  refine lv_if_eq (tgt := 14) hx hb dX0_set_4 (by decide) (fun c_2 => ?_) (fun c_2 => ?_)
  · exact g_throw S hs hnt (by decide +kernel) cl_X0_21 in_IllegalArgumentException gt_IAE1 gt_IAE2 gt_IAE3 hE hS hl.1 dX0_set_14 dX0_set_17 dX0_set_18 dX0_set_21 hout hlocks (by decide) (Nat.le_of_ble_eq_true rfl) (by decide) (by decide) (fun q h => hAA q h) (by decide) (by decide) (fun t9 hF9 _ _ => ⟨(), trivial, (show jset f r n = .inl gIAE from by rw [jset, if_pos c_2]), hF9⟩)
  · refine lv_lload_n hx hb dX0_set_7 rfl (lv_at hl 2 rfl) ?_
    refine g_callSi S hs (tX0_isNumber l t n) ml_X0_17 st_yX0_isNumber in_X0 cd_yX0_isNumber hd_yX0_isNumber ⟨by decide, by decide⟩ hE hS hA hl.1 rfl (Nat.le_of_ble_eq_true rfl) ⟨by decide, by decide⟩ dX0_set_8 (fun r_3 hr_3 => ?_)
    subst hr_3
    refine lv_if_ne (tgt := 22) hx hb dX0_set_11 (by decide) (fun c_4 => ?_) (fun c_4 => ?_)
    · refine lv_aload_n hx hb dX0_set_22 rfl (lv_at hl 0 rfl) ?_
      refine va_get (ci := 0) (v := .ref h1) (C := RX0) (T := TX0) (N := 1) hx hb hts (fun w h => hs _ (inX0g w h)) hown hK hP 0 rfl rfl 0 (by decide) (hts _ (hs _ fl_X0_9)) (fun _ h9 => h9) rfl dX0_set_23 ?_
      refine lv_iload_n hx hb dX0_set_26 rfl (lv_at hl 1 rfl) ?_
      refine va_lald hx hb hK hP 1 0 rfl rfl (isReg_in c_2) dX0_set_27 ?_
      refine lv_lstore (lv' := [(4, .long (f r.toNatClampNeg)), (0, .ref h0), (1, .int r), (2, .long n)]) hx hb dX0_set_28 hl (by decide) rfl (fun ls hl => ?_)
      refine lv_aload_n hx hb dX0_set_30 rfl (lv_at hl 1 rfl) ?_
      refine va_get (ci := 0) (v := .ref h1) (C := RX0) (T := TX0) (N := 1) hx hb hts (fun w h => hs _ (inX0g w h)) hown hK hP 0 rfl rfl 0 (by decide) (hts _ (hs _ fl_X0_9)) (fun _ h9 => h9) rfl dX0_set_31 ?_
      refine lv_iload_n hx hb dX0_set_34 rfl (lv_at hl 2 rfl) ?_
      refine lv_lload_n hx hb dX0_set_35 rfl (lv_at hl 3 rfl) ?_
      refine va_last hx hb hK hP hD hSw 1 0 rfl rfl (isReg_in c_2) dX0_set_36 (fun H locs hP hD hSw => ?_)
      have hP : va_P D vwCl (wX h0 h1 cJ (vp_updL f r.toNatClampNeg n)) H := hP
      have hD : va_D A (wX h0 h1 cJ (vp_updL f r.toNatClampNeg n)) := hD
      refine lv_lload hx hb dX0_set_37 (lv_at hl 0 rfl) ?_
      exact vx_ret (W.widen (by decide) (by decide) (W.lret (v := f r.toNatClampNeg) hx hb hr (fun t9 ht9 hW9 => ⟨⟨f r.toNatClampNeg, vp_updL f r.toNatClampNeg n, rfl, (by rw [jset, if_neg c_2, if_neg c_4]), by rw [ht9]; exact hP, va_K.moved hW9.alike hK, hD⟩, hSw.F ht9⟩) hSw.2.2 dX0_set_39 hlocks))
    · exact g_throw S hs hnt (by decide +kernel) cl_X0_21 in_IllegalArgumentException gt_IAE1 gt_IAE2 gt_IAE3 hE hS hl.1 dX0_set_14 dX0_set_17 dX0_set_18 dX0_set_21 hout hlocks (by decide) (Nat.le_of_ble_eq_true rfl) (by decide) (by decide) (fun q h => hAA q h) (by decide) (by decide) (fun t9 hF9 _ _ => ⟨(), trivial, (show jset f r n = .inl gIAE from by rw [jset, if_neg c_2, if_pos c_4]), hF9⟩)
def jget (f : Nat → Int64) (r : Int32) : String ⊕ (Int64 × (Nat → Int64)) :=
  if (jX0_isRegister r) = (0 : Int32) then
    .inl gIAE
  else .inr (f r.toNatClampNeg, f)
set_option maxHeartbeats 4000000 in
set_option maxRecDepth 100000 in
theorem tX0_get (l : Launch) (hnt : l.stackTraces = false) (t : Nat) (D : va_G) (h0 h1 : Nat) (cJ : ClassId) (f : Nat → Int64) (r : Int32) : gXl l yX0_get cX0_get 2 { frames := 6, cells := 1, slots := 6, locals := 90 } t D h0 h1 cJ f [.int r] (fun z9 f9 => jget f r = .inr (z9, f9)) (fun E9 => jget f r = .inl E9) := by
  refine g_openXl (by decide +kernel) (Nat.le_of_ble_eq_true rfl) ?_
  intro p e s m below meth c ls A _ hAA S hr hlocks hout hE hP hK hD hl
  obtain ⟨hx, hb, hml, hown, hts⟩ := id S
  have hs : ∀ w ∈ gws, w ∈ Cond.code yX0_get cX0_get 2 (some .long) :: gws := fun w h => List.mem_cons_of_mem _ h
  have hA : ∀ q, s.heap.size ≤ q → gN s.heap.size q := fun _ h => h
  have hS : va_S (gN s.heap.size) s.heap s.heap [] := va_S.rf
  have hSw : va_S A s.heap s.heap [] := va_S.rf
  have hl : lv_has ls 2 [(0, .ref h0), (1, .int r)] := hl
  refine lv_iload_n hx hb dX0_get_0 rfl (lv_at hl 1 rfl) ?_
  refine g_callSi S hs (tX0_isRegister l t r) ml_X0_13 st_yX0_isRegister in_X0 cd_yX0_isRegister hd_yX0_isRegister ⟨by decide, by decide⟩ hE hS hA hl.1 rfl (Nat.le_of_ble_eq_true rfl) ⟨by decide, by decide⟩ dX0_get_1 (fun r_1 hr_1 => ?_)
  subst hr_1
  refine lv_if_ne (tgt := 15) hx hb dX0_get_4 (by decide) (fun c_2 => ?_) (fun c_2 => ?_)
  · refine lv_aload_n hx hb dX0_get_15 rfl (lv_at hl 0 rfl) ?_
    refine va_get (ci := 0) (v := .ref h1) (C := RX0) (T := TX0) (N := 1) hx hb hts (fun w h => hs _ (inX0g w h)) hown hK hP 0 rfl rfl 0 (by decide) (hts _ (hs _ fl_X0_9)) (fun _ h9 => h9) rfl dX0_get_16 ?_
    refine lv_iload_n hx hb dX0_get_19 rfl (lv_at hl 1 rfl) ?_
    refine va_lald hx hb hK hP 1 0 rfl rfl (isReg_in c_2) dX0_get_20 ?_
    exact vx_ret (W.widen (by decide) (by decide) (W.lret (v := f r.toNatClampNeg) hx hb hr (fun t9 ht9 hW9 => ⟨⟨f r.toNatClampNeg, f, rfl, (by rw [jget, if_neg c_2]), by rw [ht9]; exact hP, va_K.moved hW9.alike hK, hD⟩, hSw.F ht9⟩) hSw.2.2 dX0_get_21 hlocks))
  · exact g_throw S hs hnt (by decide +kernel) cl_X0_21 in_IllegalArgumentException gt_IAE1 gt_IAE2 gt_IAE3 hE hS hl.1 dX0_get_7 dX0_get_10 dX0_get_11 dX0_get_14 hout hlocks (by decide) (Nat.le_of_ble_eq_true rfl) (by decide) (by decide) (fun q h => hAA q h) (by decide) (by decide) (fun t9 hF9 _ _ => ⟨(), trivial, (show jget f r = .inl gIAE from by rw [jget, if_pos c_2]), hF9⟩)
theorem g_op5 {op : Int32} (h1 : ¬ op < 0) (h2 : op ≤ (4 : Int32)) : op = 0 ∨ op = 1 ∨ op = 2 ∨ op = 3 ∨ op = 4 := by
  obtain ⟨j, hj, rfl⟩ := nI_of2 (M := 4) (n := 4) rfl h1 h2
  have key : ∀ j, j < 5 → nI j = 0 ∨ nI j = 1 ∨ nI j = 2 ∨ nI j = 3 ∨ nI j = 4 := by decide
  exact key j (by omega)
def jreckon (f : Nat → Int64) (r : Int32) (op : Int32) (a : Int32) (b : Int32) : String ⊕ (Int64 × (Nat → Int64)) :=
  if (jX0_isRegister r) = (0 : Int32) then
    .inl gIAE
  else if (jX0_isRegister a) = (0 : Int32) then
    .inl gIAE
  else if (jX0_isRegister b) = (0 : Int32) then
    .inl gIAE
  else if op < (0 : Int32) then
    .inl gIAE
  else if op ≤ (4 : Int32) then
    jbind (jreckoned op (f a.toNatClampNeg) (f b.toNatClampNeg)) fun r_9 =>
      jbind (jlimited r_9) fun r_10 =>
        .inr (r_10, vp_updL f r.toNatClampNeg r_10)
  else .inl gIAE
set_option maxHeartbeats 4000000 in
set_option maxRecDepth 100000 in
theorem tX0_reckon (l : Launch) (hnt : l.stackTraces = false) (t : Nat) (D : va_G) (h0 h1 : Nat) (cJ : ClassId) (f : Nat → Int64) (r : Int32) (op : Int32) (a : Int32) (b : Int32) : gXl l yX0_reckon cX0_reckon 7 { frames := 9, cells := 1, slots := 6, locals := 180 } t D h0 h1 cJ f [.int r, .int op, .int a, .int b] (fun z9 f9 => jreckon f r op a b = .inr (z9, f9)) (fun E9 => jreckon f r op a b = .inl E9) := by
  refine g_openXl (by decide +kernel) (Nat.le_of_ble_eq_true rfl) ?_
  intro p e s m below meth c ls A _ hAA S hr hlocks hout hE hP hK hD hl
  obtain ⟨hx, hb, hml, hown, hts⟩ := id S
  have hs : ∀ w ∈ gws, w ∈ Cond.code yX0_reckon cX0_reckon 7 (some .long) :: gws := fun w h => List.mem_cons_of_mem _ h
  have hA : ∀ q, s.heap.size ≤ q → gN s.heap.size q := fun _ h => h
  have hS : va_S (gN s.heap.size) s.heap s.heap [] := va_S.rf
  have hSw : va_S A s.heap s.heap [] := va_S.rf
  have hl : lv_has ls 7 [(0, .ref h0), (1, .int r), (2, .int op), (3, .int a), (4, .int b)] := hl
  refine lv_iload_n hx hb dX0_reckon_0 rfl (lv_at hl 1 rfl) ?_
  refine g_callSi S hs (tX0_isRegister l t r) ml_X0_13 st_yX0_isRegister in_X0 cd_yX0_isRegister hd_yX0_isRegister ⟨by decide, by decide⟩ hE hS hA hl.1 rfl (Nat.le_of_ble_eq_true rfl) ⟨by decide, by decide⟩ dX0_reckon_1 (fun r_1 hr_1 => ?_)
  subst hr_1
  refine lv_if_eq (tgt := 31) hx hb dX0_reckon_4 (by decide) (fun c_2 => ?_) (fun c_2 => ?_)
  · exact g_throw S hs hnt (by decide +kernel) cl_X0_21 in_IllegalArgumentException gt_IAE1 gt_IAE2 gt_IAE3 hE hS hl.1 dX0_reckon_31 dX0_reckon_34 dX0_reckon_35 dX0_reckon_38 hout hlocks (by decide) (Nat.le_of_ble_eq_true rfl) (by decide) (by decide) (fun q h => hAA q h) (by decide) (by decide) (fun t9 hF9 _ _ => ⟨(), trivial, (show jreckon f r op a b = .inl gIAE from by rw [jreckon, if_pos c_2]), hF9⟩)
  · refine lv_iload_n hx hb dX0_reckon_7 rfl (lv_at hl 3 rfl) ?_
    refine g_callSi S hs (tX0_isRegister l t a) ml_X0_13 st_yX0_isRegister in_X0 cd_yX0_isRegister hd_yX0_isRegister ⟨by decide, by decide⟩ hE hS hA hl.1 rfl (Nat.le_of_ble_eq_true rfl) ⟨by decide, by decide⟩ dX0_reckon_8 (fun r_3 hr_3 => ?_)
    subst hr_3
    refine lv_if_eq (tgt := 31) hx hb dX0_reckon_11 (by decide) (fun c_4 => ?_) (fun c_4 => ?_)
    · exact g_throw S hs hnt (by decide +kernel) cl_X0_21 in_IllegalArgumentException gt_IAE1 gt_IAE2 gt_IAE3 hE hS hl.1 dX0_reckon_31 dX0_reckon_34 dX0_reckon_35 dX0_reckon_38 hout hlocks (by decide) (Nat.le_of_ble_eq_true rfl) (by decide) (by decide) (fun q h => hAA q h) (by decide) (by decide) (fun t9 hF9 _ _ => ⟨(), trivial, (show jreckon f r op a b = .inl gIAE from by rw [jreckon, if_neg c_2, if_pos c_4]), hF9⟩)
    · refine lv_iload hx hb dX0_reckon_14 (lv_at hl 4 rfl) ?_
      refine g_callSi S hs (tX0_isRegister l t b) ml_X0_13 st_yX0_isRegister in_X0 cd_yX0_isRegister hd_yX0_isRegister ⟨by decide, by decide⟩ hE hS hA hl.1 rfl (Nat.le_of_ble_eq_true rfl) ⟨by decide, by decide⟩ dX0_reckon_16 (fun r_5 hr_5 => ?_)
      subst hr_5
      refine lv_if_eq (tgt := 31) hx hb dX0_reckon_19 (by decide) (fun c_6 => ?_) (fun c_6 => ?_)
      · exact g_throw S hs hnt (by decide +kernel) cl_X0_21 in_IllegalArgumentException gt_IAE1 gt_IAE2 gt_IAE3 hE hS hl.1 dX0_reckon_31 dX0_reckon_34 dX0_reckon_35 dX0_reckon_38 hout hlocks (by decide) (Nat.le_of_ble_eq_true rfl) (by decide) (by decide) (fun q h => hAA q h) (by decide) (by decide) (fun t9 hF9 _ _ => ⟨(), trivial, (show jreckon f r op a b = .inl gIAE from by rw [jreckon, if_neg c_2, if_neg c_4, if_pos c_6]), hF9⟩)
      · refine lv_iload_n hx hb dX0_reckon_22 rfl (lv_at hl 2 rfl) ?_
        refine lv_if_lt (tgt := 31) hx hb dX0_reckon_23 (by decide) (fun c_7 => ?_) (fun c_7 => ?_)
        · exact g_throw S hs hnt (by decide +kernel) cl_X0_21 in_IllegalArgumentException gt_IAE1 gt_IAE2 gt_IAE3 hE hS hl.1 dX0_reckon_31 dX0_reckon_34 dX0_reckon_35 dX0_reckon_38 hout hlocks (by decide) (Nat.le_of_ble_eq_true rfl) (by decide) (by decide) (fun q h => hAA q h) (by decide) (by decide) (fun t9 hF9 _ _ => ⟨(), trivial, (show jreckon f r op a b = .inl gIAE from by rw [jreckon, if_neg c_2, if_neg c_4, if_neg c_6, if_pos c_7]), hF9⟩)
        · refine lv_iload_n hx hb dX0_reckon_26 rfl (lv_at hl 2 rfl) ?_
          refine lv_iconst (v := 4) hx hb dX0_reckon_27 (by decide) ?_
          refine lv_icmp_le (tgt := 39) hx hb dX0_reckon_28 (by decide) (fun c_8 => ?_) (fun c_8 => ?_)
          · refine lv_iload_n hx hb dX0_reckon_39 rfl (lv_at hl 2 rfl) ?_
            refine lv_aload_n hx hb dX0_reckon_40 rfl (lv_at hl 0 rfl) ?_
            refine va_get (ci := 0) (v := .ref h1) (C := RX0) (T := TX0) (N := 1) hx hb hts (fun w h => hs _ (inX0g w h)) hown hK hP 0 rfl rfl 0 (by decide) (hts _ (hs _ fl_X0_9)) (fun _ h9 => h9) rfl dX0_reckon_41 ?_
            refine lv_iload_n hx hb dX0_reckon_44 rfl (lv_at hl 3 rfl) ?_
            refine va_lald hx hb hK hP 1 0 rfl rfl (isReg_in c_4) dX0_reckon_45 ?_
            refine lv_aload_n hx hb dX0_reckon_46 rfl (lv_at hl 0 rfl) ?_
            refine va_get (ci := 0) (v := .ref h1) (C := RX0) (T := TX0) (N := 1) hx hb hts (fun w h => hs _ (inX0g w h)) hown hK hP 0 rfl rfl 0 (by decide) (hts _ (hs _ fl_X0_9)) (fun _ h9 => h9) rfl dX0_reckon_47 ?_
            refine lv_iload hx hb dX0_reckon_50 (lv_at hl 4 rfl) ?_
            refine va_lald hx hb hK hP 1 0 rfl rfl (isReg_in c_6) dX0_reckon_52 ?_
            refine g_callSlX S hs (tX0_reckoned l hnt t op (f a.toNatClampNeg) (f b.toNatClampNeg) (by first | exact g_op5 c_7 c_8 | exact g_op5 (by assumption) (by assumption))) ml_X0_24 st_yX0_reckoned in_X0 cd_yX0_reckoned hd_yX0_reckoned ⟨by decide, by decide⟩ hE hS hA hl.1 rfl (Nat.le_of_ble_eq_true rfl) ⟨by decide, by decide⟩ dX0_reckon_53 hout hlocks (fun q h => hAA q h) (by decide) (by decide) (fun E9 hx9 t9 hF9 _ _ => ⟨(), trivial, (show jreckon f r op a b = .inl E9 from by rw [jreckon, if_neg c_2, if_neg c_4, if_neg c_6, if_neg c_7, if_pos c_8, hx9, jbind_inl]), hF9⟩) (fun r_9 hr_9 => ?_)
            refine g_callSlX S hs (tX0_limited l hnt t r_9) ml_X0_28 st_yX0_limited in_X0 cd_yX0_limited hd_yX0_limited ⟨by decide, by decide⟩ hE hS hA hl.1 rfl (Nat.le_of_ble_eq_true rfl) ⟨by decide, by decide⟩ dX0_reckon_56 hout hlocks (fun q h => hAA q h) (by decide) (by decide) (fun E9 hx9 t9 hF9 _ _ => ⟨(), trivial, (show jreckon f r op a b = .inl E9 from by rw [jreckon, if_neg c_2, if_neg c_4, if_neg c_6, if_neg c_7, if_pos c_8, hr_9, jbind_inr, hx9, jbind_inl]), hF9⟩) (fun r_10 hr_10 => ?_)
            refine lv_lstore (lv' := [(5, .long r_10), (0, .ref h0), (1, .int r), (2, .int op), (3, .int a), (4, .int b)]) hx hb dX0_reckon_59 hl (by decide) rfl (fun ls hl => ?_)
            refine lv_aload_n hx hb dX0_reckon_61 rfl (lv_at hl 1 rfl) ?_
            refine va_get (ci := 0) (v := .ref h1) (C := RX0) (T := TX0) (N := 1) hx hb hts (fun w h => hs _ (inX0g w h)) hown hK hP 0 rfl rfl 0 (by decide) (hts _ (hs _ fl_X0_9)) (fun _ h9 => h9) rfl dX0_reckon_62 ?_
            refine lv_iload_n hx hb dX0_reckon_65 rfl (lv_at hl 2 rfl) ?_
            refine lv_lload hx hb dX0_reckon_66 (lv_at hl 0 rfl) ?_
            refine va_last hx hb hK hP hD hSw 1 0 rfl rfl (isReg_in c_2) dX0_reckon_68 (fun H locs hP hD hSw => ?_)
            have hP : va_P D vwCl (wX h0 h1 cJ (vp_updL f r.toNatClampNeg r_10)) H := hP
            have hD : va_D A (wX h0 h1 cJ (vp_updL f r.toNatClampNeg r_10)) := hD
            refine lv_lload hx hb dX0_reckon_69 (lv_at hl 0 rfl) ?_
            exact vx_ret (W.widen (by decide) (by decide) (W.lret (v := r_10) hx hb hr (fun t9 ht9 hW9 => ⟨⟨r_10, vp_updL f r.toNatClampNeg r_10, rfl, (by rw [jreckon, if_neg c_2, if_neg c_4, if_neg c_6, if_neg c_7, if_pos c_8, hr_9, jbind_inr, hr_10, jbind_inr]), by rw [ht9]; exact hP, va_K.moved hW9.alike hK, hD⟩, hSw.F ht9⟩) hSw.2.2 dX0_reckon_71 hlocks))
          · exact g_throw S hs hnt (by decide +kernel) cl_X0_21 in_IllegalArgumentException gt_IAE1 gt_IAE2 gt_IAE3 hE hS hl.1 dX0_reckon_31 dX0_reckon_34 dX0_reckon_35 dX0_reckon_38 hout hlocks (by decide) (Nat.le_of_ble_eq_true rfl) (by decide) (by decide) (fun q h => hAA q h) (by decide) (by decide) (fun t9 hF9 _ _ => ⟨(), trivial, (show jreckon f r op a b = .inl gIAE from by rw [jreckon, if_neg c_2, if_neg c_4, if_neg c_6, if_neg c_7, if_neg c_8]), hF9⟩)
def jturn (f : Nat → Int64) (r : Int32) (op : Int32) (a : Int32) : String ⊕ (Int64 × (Nat → Int64)) :=
  if (jX0_isRegister r) = (0 : Int32) then
    .inl gIAE
  else if (jX0_isRegister a) = (0 : Int32) then
    .inl gIAE
  else if op < (0 : Int32) then
    .inl gIAE
  else if op ≤ (3 : Int32) then
    jbind (jlimited (jturned op (f a.toNatClampNeg))) fun r_8 =>
      .inr (r_8, vp_updL f r.toNatClampNeg r_8)
  else .inl gIAE
set_option maxHeartbeats 4000000 in
set_option maxRecDepth 100000 in
theorem tX0_turn (l : Launch) (hnt : l.stackTraces = false) (t : Nat) (D : va_G) (h0 h1 : Nat) (cJ : ClassId) (f : Nat → Int64) (r : Int32) (op : Int32) (a : Int32) : gXl l yX0_turn cX0_turn 6 { frames := 7, cells := 1, slots := 6, locals := 120 } t D h0 h1 cJ f [.int r, .int op, .int a] (fun z9 f9 => jturn f r op a = .inr (z9, f9)) (fun E9 => jturn f r op a = .inl E9) := by
  refine g_openXl (by decide +kernel) (Nat.le_of_ble_eq_true rfl) ?_
  intro p e s m below meth c ls A _ hAA S hr hlocks hout hE hP hK hD hl
  obtain ⟨hx, hb, hml, hown, hts⟩ := id S
  have hs : ∀ w ∈ gws, w ∈ Cond.code yX0_turn cX0_turn 6 (some .long) :: gws := fun w h => List.mem_cons_of_mem _ h
  have hA : ∀ q, s.heap.size ≤ q → gN s.heap.size q := fun _ h => h
  have hS : va_S (gN s.heap.size) s.heap s.heap [] := va_S.rf
  have hSw : va_S A s.heap s.heap [] := va_S.rf
  have hl : lv_has ls 6 [(0, .ref h0), (1, .int r), (2, .int op), (3, .int a)] := hl
  refine lv_iload_n hx hb dX0_turn_0 rfl (lv_at hl 1 rfl) ?_
  refine g_callSi S hs (tX0_isRegister l t r) ml_X0_13 st_yX0_isRegister in_X0 cd_yX0_isRegister hd_yX0_isRegister ⟨by decide, by decide⟩ hE hS hA hl.1 rfl (Nat.le_of_ble_eq_true rfl) ⟨by decide, by decide⟩ dX0_turn_1 (fun r_1 hr_1 => ?_)
  subst hr_1
  refine lv_if_eq (tgt := 23) hx hb dX0_turn_4 (by decide) (fun c_2 => ?_) (fun c_2 => ?_)
  · exact g_throw S hs hnt (by decide +kernel) cl_X0_21 in_IllegalArgumentException gt_IAE1 gt_IAE2 gt_IAE3 hE hS hl.1 dX0_turn_23 dX0_turn_26 dX0_turn_27 dX0_turn_30 hout hlocks (by decide) (Nat.le_of_ble_eq_true rfl) (by decide) (by decide) (fun q h => hAA q h) (by decide) (by decide) (fun t9 hF9 _ _ => ⟨(), trivial, (show jturn f r op a = .inl gIAE from by rw [jturn, if_pos c_2]), hF9⟩)
  · refine lv_iload_n hx hb dX0_turn_7 rfl (lv_at hl 3 rfl) ?_
    refine g_callSi S hs (tX0_isRegister l t a) ml_X0_13 st_yX0_isRegister in_X0 cd_yX0_isRegister hd_yX0_isRegister ⟨by decide, by decide⟩ hE hS hA hl.1 rfl (Nat.le_of_ble_eq_true rfl) ⟨by decide, by decide⟩ dX0_turn_8 (fun r_3 hr_3 => ?_)
    subst hr_3
    refine lv_if_eq (tgt := 23) hx hb dX0_turn_11 (by decide) (fun c_4 => ?_) (fun c_4 => ?_)
    · exact g_throw S hs hnt (by decide +kernel) cl_X0_21 in_IllegalArgumentException gt_IAE1 gt_IAE2 gt_IAE3 hE hS hl.1 dX0_turn_23 dX0_turn_26 dX0_turn_27 dX0_turn_30 hout hlocks (by decide) (Nat.le_of_ble_eq_true rfl) (by decide) (by decide) (fun q h => hAA q h) (by decide) (by decide) (fun t9 hF9 _ _ => ⟨(), trivial, (show jturn f r op a = .inl gIAE from by rw [jturn, if_neg c_2, if_pos c_4]), hF9⟩)
    · refine lv_iload_n hx hb dX0_turn_14 rfl (lv_at hl 2 rfl) ?_
      refine lv_if_lt (tgt := 23) hx hb dX0_turn_15 (by decide) (fun c_5 => ?_) (fun c_5 => ?_)
      · exact g_throw S hs hnt (by decide +kernel) cl_X0_21 in_IllegalArgumentException gt_IAE1 gt_IAE2 gt_IAE3 hE hS hl.1 dX0_turn_23 dX0_turn_26 dX0_turn_27 dX0_turn_30 hout hlocks (by decide) (Nat.le_of_ble_eq_true rfl) (by decide) (by decide) (fun q h => hAA q h) (by decide) (by decide) (fun t9 hF9 _ _ => ⟨(), trivial, (show jturn f r op a = .inl gIAE from by rw [jturn, if_neg c_2, if_neg c_4, if_pos c_5]), hF9⟩)
      · refine lv_iload_n hx hb dX0_turn_18 rfl (lv_at hl 2 rfl) ?_
        refine lv_iconst (v := 3) hx hb dX0_turn_19 (by decide) ?_
        refine lv_icmp_le (tgt := 31) hx hb dX0_turn_20 (by decide) (fun c_6 => ?_) (fun c_6 => ?_)
        · refine lv_iload_n hx hb dX0_turn_31 rfl (lv_at hl 2 rfl) ?_
          refine lv_aload_n hx hb dX0_turn_32 rfl (lv_at hl 0 rfl) ?_
          refine va_get (ci := 0) (v := .ref h1) (C := RX0) (T := TX0) (N := 1) hx hb hts (fun w h => hs _ (inX0g w h)) hown hK hP 0 rfl rfl 0 (by decide) (hts _ (hs _ fl_X0_9)) (fun _ h9 => h9) rfl dX0_turn_33 ?_
          refine lv_iload_n hx hb dX0_turn_36 rfl (lv_at hl 3 rfl) ?_
          refine va_lald hx hb hK hP 1 0 rfl rfl (isReg_in c_4) dX0_turn_37 ?_
          refine g_callSl S hs (tX0_turned l t op (f a.toNatClampNeg)) ml_X0_32 st_yX0_turned in_X0 cd_yX0_turned hd_yX0_turned ⟨by decide, by decide⟩ hE hS hA hl.1 rfl (Nat.le_of_ble_eq_true rfl) ⟨by decide, by decide⟩ dX0_turn_38 (fun r_7 hr_7 => ?_)
          subst hr_7
          refine g_callSlX S hs (tX0_limited l hnt t (jturned op (f a.toNatClampNeg))) ml_X0_28 st_yX0_limited in_X0 cd_yX0_limited hd_yX0_limited ⟨by decide, by decide⟩ hE hS hA hl.1 rfl (Nat.le_of_ble_eq_true rfl) ⟨by decide, by decide⟩ dX0_turn_41 hout hlocks (fun q h => hAA q h) (by decide) (by decide) (fun E9 hx9 t9 hF9 _ _ => ⟨(), trivial, (show jturn f r op a = .inl E9 from by rw [jturn, if_neg c_2, if_neg c_4, if_neg c_5, if_pos c_6, hx9, jbind_inl]), hF9⟩) (fun r_8 hr_8 => ?_)
          refine lv_lstore (lv' := [(4, .long r_8), (0, .ref h0), (1, .int r), (2, .int op), (3, .int a)]) hx hb dX0_turn_44 hl (by decide) rfl (fun ls hl => ?_)
          refine lv_aload_n hx hb dX0_turn_46 rfl (lv_at hl 1 rfl) ?_
          refine va_get (ci := 0) (v := .ref h1) (C := RX0) (T := TX0) (N := 1) hx hb hts (fun w h => hs _ (inX0g w h)) hown hK hP 0 rfl rfl 0 (by decide) (hts _ (hs _ fl_X0_9)) (fun _ h9 => h9) rfl dX0_turn_47 ?_
          refine lv_iload_n hx hb dX0_turn_50 rfl (lv_at hl 2 rfl) ?_
          refine lv_lload hx hb dX0_turn_51 (lv_at hl 0 rfl) ?_
          refine va_last hx hb hK hP hD hSw 1 0 rfl rfl (isReg_in c_2) dX0_turn_53 (fun H locs hP hD hSw => ?_)
          have hP : va_P D vwCl (wX h0 h1 cJ (vp_updL f r.toNatClampNeg r_8)) H := hP
          have hD : va_D A (wX h0 h1 cJ (vp_updL f r.toNatClampNeg r_8)) := hD
          refine lv_lload hx hb dX0_turn_54 (lv_at hl 0 rfl) ?_
          exact vx_ret (W.widen (by decide) (by decide) (W.lret (v := r_8) hx hb hr (fun t9 ht9 hW9 => ⟨⟨r_8, vp_updL f r.toNatClampNeg r_8, rfl, (by rw [jturn, if_neg c_2, if_neg c_4, if_neg c_5, if_pos c_6, hr_8, jbind_inr]), by rw [ht9]; exact hP, va_K.moved hW9.alike hK, hD⟩, hSw.F ht9⟩) hSw.2.2 dX0_turn_56 hlocks))
        · exact g_throw S hs hnt (by decide +kernel) cl_X0_21 in_IllegalArgumentException gt_IAE1 gt_IAE2 gt_IAE3 hE hS hl.1 dX0_turn_23 dX0_turn_26 dX0_turn_27 dX0_turn_30 hout hlocks (by decide) (Nat.le_of_ble_eq_true rfl) (by decide) (by decide) (fun q h => hAA q h) (by decide) (by decide) (fun t9 hF9 _ _ => ⟨(), trivial, (show jturn f r op a = .inl gIAE from by rw [jturn, if_neg c_2, if_neg c_4, if_neg c_5, if_neg c_6]), hF9⟩)
def jround (f : Nat → Int64) (r : Int32) (a : Int32) (d : Int32) : String ⊕ (Int64 × (Nat → Int64)) :=
  if (jX0_isRegister r) = (0 : Int32) then
    .inl gIAE
  else if (jX0_isRegister a) = (0 : Int32) then
    .inl gIAE
  else if d < (-9 : Int32) then
    .inl gIAE
  else if d ≤ (4 : Int32) then
    jbind (jlimited ((jrq (f a.toNatClampNeg) (gP ((4 : Int32) - d).toNatClampNeg)) * (gP ((4 : Int32) - d).toNatClampNeg))) fun r_8 =>
      .inr (r_8, vp_updL f r.toNatClampNeg r_8)
  else .inl gIAE
set_option maxHeartbeats 4000000 in
set_option maxRecDepth 100000 in
theorem tX0_round (l : Launch) (hnt : l.stackTraces = false) (t : Nat) (D : va_G) (h0 h1 : Nat) (cJ : ClassId) (f : Nat → Int64) (r : Int32) (a : Int32) (d : Int32) : gXl l yX0_round cX0_round 8 { frames := 7, cells := 1, slots := 6, locals := 120 } t D h0 h1 cJ f [.int r, .int a, .int d] (fun z9 f9 => jround f r a d = .inr (z9, f9)) (fun E9 => jround f r a d = .inl E9) := by
  refine g_openXl (by decide +kernel) (Nat.le_of_ble_eq_true rfl) ?_
  intro p e s m below meth c ls A _ hAA S hr hlocks hout hE hP hK hD hl
  obtain ⟨hx, hb, hml, hown, hts⟩ := id S
  have hs : ∀ w ∈ gws, w ∈ Cond.code yX0_round cX0_round 8 (some .long) :: gws := fun w h => List.mem_cons_of_mem _ h
  have hA : ∀ q, s.heap.size ≤ q → gN s.heap.size q := fun _ h => h
  have hS : va_S (gN s.heap.size) s.heap s.heap [] := va_S.rf
  have hSw : va_S A s.heap s.heap [] := va_S.rf
  have hl : lv_has ls 8 [(0, .ref h0), (1, .int r), (2, .int a), (3, .int d)] := hl
  refine lv_iload_n hx hb dX0_round_0 rfl (lv_at hl 1 rfl) ?_
  refine g_callSi S hs (tX0_isRegister l t r) ml_X0_13 st_yX0_isRegister in_X0 cd_yX0_isRegister hd_yX0_isRegister ⟨by decide, by decide⟩ hE hS hA hl.1 rfl (Nat.le_of_ble_eq_true rfl) ⟨by decide, by decide⟩ dX0_round_1 (fun r_1 hr_1 => ?_)
  subst hr_1
  refine lv_if_eq (tgt := 25) hx hb dX0_round_4 (by decide) (fun c_2 => ?_) (fun c_2 => ?_)
  · exact g_throw S hs hnt (by decide +kernel) cl_X0_21 in_IllegalArgumentException gt_IAE1 gt_IAE2 gt_IAE3 hE hS hl.1 dX0_round_25 dX0_round_28 dX0_round_29 dX0_round_32 hout hlocks (by decide) (Nat.le_of_ble_eq_true rfl) (by decide) (by decide) (fun q h => hAA q h) (by decide) (by decide) (fun t9 hF9 _ _ => ⟨(), trivial, (show jround f r a d = .inl gIAE from by rw [jround, if_pos c_2]), hF9⟩)
  · refine lv_iload_n hx hb dX0_round_7 rfl (lv_at hl 2 rfl) ?_
    refine g_callSi S hs (tX0_isRegister l t a) ml_X0_13 st_yX0_isRegister in_X0 cd_yX0_isRegister hd_yX0_isRegister ⟨by decide, by decide⟩ hE hS hA hl.1 rfl (Nat.le_of_ble_eq_true rfl) ⟨by decide, by decide⟩ dX0_round_8 (fun r_3 hr_3 => ?_)
    subst hr_3
    refine lv_if_eq (tgt := 25) hx hb dX0_round_11 (by decide) (fun c_4 => ?_) (fun c_4 => ?_)
    · exact g_throw S hs hnt (by decide +kernel) cl_X0_21 in_IllegalArgumentException gt_IAE1 gt_IAE2 gt_IAE3 hE hS hl.1 dX0_round_25 dX0_round_28 dX0_round_29 dX0_round_32 hout hlocks (by decide) (Nat.le_of_ble_eq_true rfl) (by decide) (by decide) (fun q h => hAA q h) (by decide) (by decide) (fun t9 hF9 _ _ => ⟨(), trivial, (show jround f r a d = .inl gIAE from by rw [jround, if_neg c_2, if_pos c_4]), hF9⟩)
    · refine lv_iload_n hx hb dX0_round_14 rfl (lv_at hl 3 rfl) ?_
      refine lv_bipush (v := (-9)) hx hb dX0_round_15 (by decide) ?_
      refine lv_icmp_lt (tgt := 25) hx hb dX0_round_17 (by decide) (fun c_5 => ?_) (fun c_5 => ?_)
      · exact g_throw S hs hnt (by decide +kernel) cl_X0_21 in_IllegalArgumentException gt_IAE1 gt_IAE2 gt_IAE3 hE hS hl.1 dX0_round_25 dX0_round_28 dX0_round_29 dX0_round_32 hout hlocks (by decide) (Nat.le_of_ble_eq_true rfl) (by decide) (by decide) (fun q h => hAA q h) (by decide) (by decide) (fun t9 hF9 _ _ => ⟨(), trivial, (show jround f r a d = .inl gIAE from by rw [jround, if_neg c_2, if_neg c_4, if_pos c_5]), hF9⟩)
      · refine lv_iload_n hx hb dX0_round_20 rfl (lv_at hl 3 rfl) ?_
        refine lv_iconst (v := 4) hx hb dX0_round_21 (by decide) ?_
        refine lv_icmp_le (tgt := 33) hx hb dX0_round_22 (by decide) (fun c_6 => ?_) (fun c_6 => ?_)
        · refine va_gets hx hb hE.2.2.2.2.1 hS hown (hts _ (hs _ fl_X0_36)) (fun _ h => h) dX0_round_33 ?_
          refine lv_iconst (v := 4) hx hb dX0_round_36 (by decide) ?_
          refine lv_iload_n hx hb dX0_round_37 rfl (lv_at hl 3 rfl) ?_
          refine lv_isub hx hb dX0_round_38 ?_
          refine va_tl hx hb hE.2.2.2.2.2 hS (g_ixD (by assumption) (by assumption)) rfl dX0_round_39 ?_
          refine lv_lstore (lv' := [(4, .long (gP ((4 : Int32) - d).toNatClampNeg)), (0, .ref h0), (1, .int r), (2, .int a), (3, .int d)]) hx hb dX0_round_40 hl (by decide) rfl (fun ls hl => ?_)
          refine lv_aload_n hx hb dX0_round_42 rfl (lv_at hl 1 rfl) ?_
          refine va_get (ci := 0) (v := .ref h1) (C := RX0) (T := TX0) (N := 1) hx hb hts (fun w h => hs _ (inX0g w h)) hown hK hP 0 rfl rfl 0 (by decide) (hts _ (hs _ fl_X0_9)) (fun _ h9 => h9) rfl dX0_round_43 ?_
          refine lv_iload_n hx hb dX0_round_46 rfl (lv_at hl 3 rfl) ?_
          refine va_lald hx hb hK hP 1 0 rfl rfl (isReg_in c_4) dX0_round_47 ?_
          refine lv_lload hx hb dX0_round_48 (lv_at hl 0 rfl) ?_
          refine g_callSl S hs (tX0_roundedQuotient l t (f a.toNatClampNeg) (gP ((4 : Int32) - d).toNatClampNeg) (jabs_ne (gP_ne (g_ixD (by assumption) (by assumption))))) ml_X0_39 st_yX0_roundedQuotient in_X0 cd_yX0_roundedQuotient hd_yX0_roundedQuotient ⟨by decide, by decide⟩ hE hS hA hl.1 rfl (Nat.le_of_ble_eq_true rfl) ⟨by decide, by decide⟩ dX0_round_50 (fun r_7 hr_7 => ?_)
          subst hr_7
          refine lv_lload hx hb dX0_round_53 (lv_at hl 0 rfl) ?_
          refine lv_lmul hx hb dX0_round_55 ?_
          refine g_callSlX S hs (tX0_limited l hnt t ((jrq (f a.toNatClampNeg) (gP ((4 : Int32) - d).toNatClampNeg)) * (gP ((4 : Int32) - d).toNatClampNeg))) ml_X0_28 st_yX0_limited in_X0 cd_yX0_limited hd_yX0_limited ⟨by decide, by decide⟩ hE hS hA hl.1 rfl (Nat.le_of_ble_eq_true rfl) ⟨by decide, by decide⟩ dX0_round_56 hout hlocks (fun q h => hAA q h) (by decide) (by decide) (fun E9 hx9 t9 hF9 _ _ => ⟨(), trivial, (show jround f r a d = .inl E9 from by rw [jround, if_neg c_2, if_neg c_4, if_neg c_5, if_pos c_6, hx9, jbind_inl]), hF9⟩) (fun r_8 hr_8 => ?_)
          refine lv_lstore (lv' := [(6, .long r_8), (4, .long (gP ((4 : Int32) - d).toNatClampNeg)), (0, .ref h0), (1, .int r), (2, .int a), (3, .int d)]) hx hb dX0_round_59 hl (by decide) rfl (fun ls hl => ?_)
          refine lv_aload_n hx hb dX0_round_61 rfl (lv_at hl 2 rfl) ?_
          refine va_get (ci := 0) (v := .ref h1) (C := RX0) (T := TX0) (N := 1) hx hb hts (fun w h => hs _ (inX0g w h)) hown hK hP 0 rfl rfl 0 (by decide) (hts _ (hs _ fl_X0_9)) (fun _ h9 => h9) rfl dX0_round_62 ?_
          refine lv_iload_n hx hb dX0_round_65 rfl (lv_at hl 3 rfl) ?_
          refine lv_lload hx hb dX0_round_66 (lv_at hl 0 rfl) ?_
          refine va_last hx hb hK hP hD hSw 1 0 rfl rfl (isReg_in c_2) dX0_round_68 (fun H locs hP hD hSw => ?_)
          have hP : va_P D vwCl (wX h0 h1 cJ (vp_updL f r.toNatClampNeg r_8)) H := hP
          have hD : va_D A (wX h0 h1 cJ (vp_updL f r.toNatClampNeg r_8)) := hD
          refine lv_lload hx hb dX0_round_69 (lv_at hl 0 rfl) ?_
          exact vx_ret (W.widen (by decide) (by decide) (W.lret (v := r_8) hx hb hr (fun t9 ht9 hW9 => ⟨⟨r_8, vp_updL f r.toNatClampNeg r_8, rfl, (by rw [jround, if_neg c_2, if_neg c_4, if_neg c_5, if_pos c_6, hr_8, jbind_inr]), by rw [ht9]; exact hP, va_K.moved hW9.alike hK, hD⟩, hSw.F ht9⟩) hSw.2.2 dX0_round_71 hlocks))
        · exact g_throw S hs hnt (by decide +kernel) cl_X0_21 in_IllegalArgumentException gt_IAE1 gt_IAE2 gt_IAE3 hE hS hl.1 dX0_round_25 dX0_round_28 dX0_round_29 dX0_round_32 hout hlocks (by decide) (Nat.le_of_ble_eq_true rfl) (by decide) (by decide) (fun q h => hAA q h) (by decide) (by decide) (fun t9 hF9 _ _ => ⟨(), trivial, (show jround f r a d = .inl gIAE from by rw [jround, if_neg c_2, if_neg c_4, if_neg c_5, if_neg c_6]), hF9⟩)
def jprint (f : Nat → Int64) (a : Int32) (i : Int32) : String ⊕ (Int32 × (Nat → Int64)) :=
  if (jX0_isRegister a) = (0 : Int32) then
    .inl gIAE
  else if (0 : Int32) ≤ i then
    if (f a.toNatClampNeg) < (0 : Int64) then
      if i = (0 : Int32) then
        .inr ((45 : Int32), f)
      else .inr (jbyte (-(f a.toNatClampNeg)) (i - (1 : Int32)), f)
    else .inr (jbyte (f a.toNatClampNeg) i, f)
  else .inl gIAE
set_option maxHeartbeats 4000000 in
set_option maxRecDepth 100000 in
theorem tX0_print (l : Launch) (hnt : l.stackTraces = false) (t : Nat) (D : va_G) (h0 h1 : Nat) (cJ : ClassId) (f : Nat → Int64) (a : Int32) (i : Int32) : gXi l yX0_print cX0_print 5 { frames := 6, cells := 1, slots := 6, locals := 90 } t D h0 h1 cJ f [.int a, .int i] (fun z9 f9 => jprint f a i = .inr (z9, f9)) (fun E9 => jprint f a i = .inl E9) := by
  refine g_openXi (by decide +kernel) (Nat.le_of_ble_eq_true rfl) ?_
  intro p e s m below meth c ls A _ hAA S hr hlocks hout hE hP hK hD hl
  obtain ⟨hx, hb, hml, hown, hts⟩ := id S
  have hs : ∀ w ∈ gws, w ∈ Cond.code yX0_print cX0_print 5 (some .int) :: gws := fun w h => List.mem_cons_of_mem _ h
  have hA : ∀ q, s.heap.size ≤ q → gN s.heap.size q := fun _ h => h
  have hS : va_S (gN s.heap.size) s.heap s.heap [] := va_S.rf
  have hSw : va_S A s.heap s.heap [] := va_S.rf
  have hl : lv_has ls 5 [(0, .ref h0), (1, .int a), (2, .int i)] := hl
  refine lv_iload_n hx hb dX0_print_0 rfl (lv_at hl 1 rfl) ?_
  refine g_callSi S hs (tX0_isRegister l t a) ml_X0_13 st_yX0_isRegister in_X0 cd_yX0_isRegister hd_yX0_isRegister ⟨by decide, by decide⟩ hE hS hA hl.1 rfl (Nat.le_of_ble_eq_true rfl) ⟨by decide, by decide⟩ dX0_print_1 (fun r_1 hr_1 => ?_)
  subst hr_1
  refine lv_if_eq (tgt := 11) hx hb dX0_print_4 (by decide) (fun c_2 => ?_) (fun c_2 => ?_)
  · exact g_throw S hs hnt (by decide +kernel) cl_X0_21 in_IllegalArgumentException gt_IAE1 gt_IAE2 gt_IAE3 hE hS hl.1 dX0_print_11 dX0_print_14 dX0_print_15 dX0_print_18 hout hlocks (by decide) (Nat.le_of_ble_eq_true rfl) (by decide) (by decide) (fun q h => hAA q h) (by decide) (by decide) (fun t9 hF9 _ _ => ⟨(), trivial, (show jprint f a i = .inl gIAE from by rw [jprint, if_pos c_2]), hF9⟩)
  · refine lv_iload_n hx hb dX0_print_7 rfl (lv_at hl 2 rfl) ?_
    refine lv_if_ge (tgt := 19) hx hb dX0_print_8 (by decide) (fun c_3 => ?_) (fun c_3 => ?_)
    · refine lv_aload_n hx hb dX0_print_19 rfl (lv_at hl 0 rfl) ?_
      refine va_get (ci := 0) (v := .ref h1) (C := RX0) (T := TX0) (N := 1) hx hb hts (fun w h => hs _ (inX0g w h)) hown hK hP 0 rfl rfl 0 (by decide) (hts _ (hs _ fl_X0_9)) (fun _ h9 => h9) rfl dX0_print_20 ?_
      refine lv_iload_n hx hb dX0_print_23 rfl (lv_at hl 1 rfl) ?_
      refine va_lald hx hb hK hP 1 0 rfl rfl (isReg_in c_2) dX0_print_24 ?_
      refine lv_lstore_n (lv' := [(3, .long (f a.toNatClampNeg)), (0, .ref h0), (1, .int a), (2, .int i)]) hx hb dX0_print_25 rfl hl (by decide) rfl (fun ls hl => ?_)
      refine lv_lload_n hx hb dX0_print_26 rfl (lv_at hl 0 rfl) ?_
      refine lv_lconst (v := 0) hx hb dX0_print_27 (by decide) ?_
      refine g_lc_lt (tgt := 38) hx hb dX0_print_28 dX0_print_29 (by decide) (fun c_4 => ?_) (fun c_4 => ?_)
      · refine lv_iload_n hx hb dX0_print_38 rfl (lv_at hl 3 rfl) ?_
        refine lv_if_ne (tgt := 47) hx hb dX0_print_39 (by decide) (fun c_5 => ?_) (fun c_5 => ?_)
        · refine lv_lload_n hx hb dX0_print_47 rfl (lv_at hl 0 rfl) ?_
          refine lv_lneg hx hb dX0_print_48 ?_
          refine lv_iload_n hx hb dX0_print_49 rfl (lv_at hl 3 rfl) ?_
          refine lv_iconst (v := 1) hx hb dX0_print_50 (by decide) ?_
          refine lv_isub hx hb dX0_print_51 ?_
          refine g_callSi S hs (tX0_printedByte l t (-(f a.toNatClampNeg)) (i - (1 : Int32)) (g_ixE (by assumption) (by assumption))) ml_X0_43 st_yX0_printedByte in_X0 cd_yX0_printedByte hd_yX0_printedByte ⟨by decide, by decide⟩ hE hS hA hl.1 rfl (Nat.le_of_ble_eq_true rfl) ⟨by decide, by decide⟩ dX0_print_52 (fun r_6 hr_6 => ?_)
          subst hr_6
          exact vx_ret (W.widen (by decide) (by decide) (W.iret (v := jbyte (-(f a.toNatClampNeg)) (i - (1 : Int32))) hx hb hr (fun t9 ht9 hW9 => ⟨⟨jbyte (-(f a.toNatClampNeg)) (i - (1 : Int32)), f, rfl, (by rw [jprint, if_neg c_2, if_pos c_3, if_pos c_4, if_neg c_5]), by rw [ht9]; exact hP, va_K.moved hW9.alike hK, hD⟩, hSw.F ht9⟩) hSw.2.2 dX0_print_55 hlocks))
        · refine lv_bipush (v := 45) hx hb dX0_print_42 (by decide) ?_
          refine lv_goto (tgt := 55) hx hb dX0_print_44 (by decide) ?_
          exact vx_ret (W.widen (by decide) (by decide) (W.iret (v := (45 : Int32)) hx hb hr (fun t9 ht9 hW9 => ⟨⟨(45 : Int32), f, rfl, (by rw [jprint, if_neg c_2, if_pos c_3, if_pos c_4, if_pos c_5]), by rw [ht9]; exact hP, va_K.moved hW9.alike hK, hD⟩, hSw.F ht9⟩) hSw.2.2 dX0_print_55 hlocks))
      · refine lv_lload_n hx hb dX0_print_32 rfl (lv_at hl 0 rfl) ?_
        refine lv_iload_n hx hb dX0_print_33 rfl (lv_at hl 3 rfl) ?_
        refine g_callSi S hs (tX0_printedByte l t (f a.toNatClampNeg) i (Int32.not_lt.mpr (by assumption))) ml_X0_43 st_yX0_printedByte in_X0 cd_yX0_printedByte hd_yX0_printedByte ⟨by decide, by decide⟩ hE hS hA hl.1 rfl (Nat.le_of_ble_eq_true rfl) ⟨by decide, by decide⟩ dX0_print_34 (fun r_7 hr_7 => ?_)
        subst hr_7
        exact vx_ret (W.widen (by decide) (by decide) (W.iret (v := jbyte (f a.toNatClampNeg) i) hx hb hr (fun t9 ht9 hW9 => ⟨⟨jbyte (f a.toNatClampNeg) i, f, rfl, (by rw [jprint, if_neg c_2, if_pos c_3, if_neg c_4]), by rw [ht9]; exact hP, va_K.moved hW9.alike hK, hD⟩, hSw.F ht9⟩) hSw.2.2 dX0_print_37 hlocks))
    · exact g_throw S hs hnt (by decide +kernel) cl_X0_21 in_IllegalArgumentException gt_IAE1 gt_IAE2 gt_IAE3 hE hS hl.1 dX0_print_11 dX0_print_14 dX0_print_15 dX0_print_18 hout hlocks (by decide) (Nat.le_of_ble_eq_true rfl) (by decide) (by decide) (fun q h => hAA q h) (by decide) (by decide) (fun t9 hF9 _ _ => ⟨(), trivial, (show jprint f a i = .inl gIAE from by rw [jprint, if_neg c_2, if_neg c_3]), hF9⟩)
