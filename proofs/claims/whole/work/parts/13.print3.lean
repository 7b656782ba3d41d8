/-! ===== print of the reference: its contract ===== -/
theorem ktext_at {v : Int64} {n0 : Nat} (h : (v < 0 ∧ n0 = 1) ∨ (¬ v < 0 ∧ n0 = 0)) (q : Nat) : ktext v (n0 + q) = kbyte (usz v) q := by
  rcases h with ⟨h, rfl⟩ | ⟨h, rfl⟩
  · rw [ktext, if_pos h, if_neg (by omega), Nat.add_sub_cancel_left]
  · rw [ktext, if_neg h, Nat.zero_add]
theorem usz_le {v : Int64} (h : gBd v) : usz v ≤ 900000000000000 := by
  obtain ⟨h1, h2⟩ := h
  unfold usz
  omega
set_option maxHeartbeats 4000000 in
set_option maxRecDepth 100000 in
theorem tX1_print (l : Launch) (t : Nat) (D : va_G) (m0 m1 m2 : Nat) (cJ cI : ClassId) (u : mS) (a : Int32) (i : Int32) (hbd : kout a = 0 → gBd (u.2.1 a.toNatClampNeg)) : gMi l yX1_print cX1_print 12 { frames := 2, cells := 0, slots := 0, locals := 60 } t D m0 m1 m2 cJ cI u [.int a, .int i] (fun z9 u9 => u9.2.1 = u.2.1 ∧ (if kout a = 0 ∧ (0 : Int32) ≤ i then z9 = ktext (u.2.1 a.toNatClampNeg) i.toNatClampNeg ∧ u9.1 = 0 else u9.1 = 1)) := by
  refine g_openMi (by decide +kernel) (Nat.le_of_ble_eq_true rfl) ?_
  intro p e s m below meth c ls A hA S hr hlocks hE hP hK hD hl
  obtain ⟨hx, hb, hml, hown, hts⟩ := id S
  have hs : ∀ w ∈ gws, w ∈ Cond.code yX1_print cX1_print 12 (some .int) :: gws := fun w h => List.mem_cons_of_mem _ h
  have hS : va_S A s.heap s.heap [] := va_S.rf
  have hl : lv_has ls 12 [(0, .ref m0), (1, .int a), (2, .int i)] := hl
  refine lv_aload_n hx hb dX1_print_0 rfl (lv_at hl 0 rfl) ?_
  refine lv_iconst (v := 0) hx hb dX1_print_1 (by decide) ?_
  refine va_put (ci := 1) (v := .int (0 : Int32)) (ty := .int) (C := RX1) (T := TX1) (N := 3) hx hb hts (fun w h => hs _ (inX1g w h)) tyX1 tyX1_ok nmX1 hown hK hP hD hS 0 rfl rfl 0 (by decide) (hts _ (hs _ fl_X1_17)) (fun _ h9 => h9) rfl (by decide +kernel) rfl rfl (Nat.le_of_ble_eq_true rfl) dX1_print_2 (fun H locs hP hD hS => ?_)
  have hP : va_P D vwCl (wM m0 m1 m2 cJ cI ((0 : Int32), u.2.1, u.2.2)) H := hP
  have hD : va_D A (wM m0 m1 m2 cJ cI ((0 : Int32), u.2.1, u.2.2)) := hD
  refine lv_aload_n hx hb dX1_print_5 rfl (lv_at hl 0 rfl) ?_
  refine lv_iload_n hx hb dX1_print_6 rfl (lv_at hl 1 rfl) ?_
  refine g_callPi S hs (tX1_out l m0 a) (va_recv hK hP (ci := 1) (q0 := 0) rfl rfl) ml_X1_21 im_yX1_out se_yX1_out in_X1 cd_yX1_out hd_yX1_out ⟨by decide, by decide⟩ hl.1 rfl (Nat.le_of_ble_eq_true rfl) ⟨by decide, by decide⟩ dX1_print_7 (fun r_1 hr_1 => ?_)
  subst hr_1
  refine lv_if_ne (tgt := 17) hx hb dX1_print_10 (by decide) (fun c_2 => ?_) (fun c_2 => ?_)
  · refine lv_aload_n hx hb dX1_print_17 rfl (lv_at hl 0 rfl) ?_
    refine lv_iconst (v := 1) hx hb dX1_print_18 (by decide) ?_
    refine g_callMi S hs (tX1_fail l t D m0 m1 m2 cJ cI ((0 : Int32), u.2.1, u.2.2) (1 : Int32)) rfl ml_X1_29 im_yX1_fail se_yX1_fail cd_yX1_fail hd_yX1_fail ⟨by decide, by decide⟩ hE hS hA hP hK hD hl.1 rfl (Nat.le_of_ble_eq_true rfl) ⟨by decide, by decide⟩ dX1_print_19 (fun r_3 u_3 H locs hr_3 hP hD hS => ?_)
    obtain ⟨rfl, rfl⟩ := hr_3
    exact W.iret (v := (kfail ((0 : Int32), u.2.1, u.2.2) (1 : Int32)).1) hx hb hr (fun t9 ht9 hW9 => ⟨⟨(kfail ((0 : Int32), u.2.1, u.2.2) (1 : Int32)).1, (kfail ((0 : Int32), u.2.1, u.2.2) (1 : Int32)).2, rfl, ⟨rfl, by rw [if_neg (fun q => c_2 q.1)]; rfl⟩, by rw [ht9]; exact hP, va_K.moved hW9.alike hK, hD⟩, hS.F ht9⟩) hS.2.2 dX1_print_22 hlocks
  · refine lv_iload_n hx hb dX1_print_13 rfl (lv_at hl 2 rfl) ?_
    refine lv_if_ge (tgt := 23) hx hb dX1_print_14 (by decide) (fun c_4 => ?_) (fun c_4 => ?_)
    · refine lv_iconst (v := 0) hx hb dX1_print_23 (by decide) ?_
      refine lv_istore_n (lv' := [(3, .int (0 : Int32)), (0, .ref m0), (1, .int a), (2, .int i)]) hx hb dX1_print_24 rfl hl (by decide) rfl (fun ls hl => ?_)
      refine lv_aload_n hx hb dX1_print_25 rfl (lv_at hl 1 rfl) ?_
      refine va_get (ci := 1) (v := .ref m1) (C := RX1) (T := TX1) (N := 3) hx hb hts (fun w h => hs _ (inX1g w h)) hown hK hP 0 rfl rfl 1 (by decide) (hts _ (hs _ fl_X1_7)) (fun _ h9 => h9) rfl dX1_print_26 ?_
      refine lv_iload_n hx hb dX1_print_29 rfl (lv_at hl 2 rfl) ?_
      refine va_lald hx hb hK hP 1 0 rfl rfl (out_in c_2) dX1_print_30 ?_
      refine g_callSl S hs (tX1_size l t (u.2.1 a.toNatClampNeg)) ml_X1_39 st_yX1_size in_X1 cd_yX1_size hd_yX1_size ⟨by decide, by decide⟩ hE hS hA hl.1 rfl (Nat.le_of_ble_eq_true rfl) ⟨by decide, by decide⟩ dX1_print_31 (fun r_5 hr_5 => ?_)
      subst hr_5
      refine lv_lstore (lv' := [(4, .long (jX1_size (u.2.1 a.toNatClampNeg))), (3, .int (0 : Int32)), (0, .ref m0), (1, .int a), (2, .int i)]) hx hb dX1_print_34 hl (by decide) rfl (fun ls hl => ?_)
      refine lv_aload_n hx hb dX1_print_36 rfl (lv_at hl 2 rfl) ?_
      refine va_get (ci := 1) (v := .ref m1) (C := RX1) (T := TX1) (N := 3) hx hb hts (fun w h => hs _ (inX1g w h)) hown hK hP 0 rfl rfl 1 (by decide) (hts _ (hs _ fl_X1_7)) (fun _ h9 => h9) rfl dX1_print_37 ?_
      refine lv_iload_n hx hb dX1_print_40 rfl (lv_at hl 3 rfl) ?_
      refine va_lald hx hb hK hP 1 0 rfl rfl (out_in c_2) dX1_print_41 ?_
      refine lv_lconst (v := 0) hx hb dX1_print_42 (by decide) ?_
      refine g_lc_ge (tgt := 58) hx hb dX1_print_43 dX1_print_44 (by decide) (fun c_6 => ?_) (fun c_6 => ?_)
      · have hv := hbd c_2
        have hle := usz_le hv
        obtain ⟨w1, w2, w3, w4⟩ := kwd_spec (W := usz (u.2.1 a.toNatClampNeg) / 10000) (by omega)
        obtain ⟨x, hx31, hix⟩ := nI_of (Int32.not_lt.mpr c_4)
        have hT := fun q => ktext_at (v := (u.2.1 a.toNatClampNeg)) (n0 := 0) (Or.inr ⟨Int64.not_lt.mpr c_6, rfl⟩) q
        have hl9 := lv_sub hl [1, 0, 2, 3, 4] rfl
        rw [size_lN hv] at hl9
        refine ktail (T := ktext (u.2.1 a.toNatClampNeg)) (n0 := 0) S hK (by omega) w1 w2 w3 w4 (by omega) (fun d hd => by rw [hT, kbyte_1 hd]) (fun hF => by rw [hT, kbyte_2 hF]) (fun hF j hj hz => by rw [Nat.add_assoc 0, Nat.add_assoc 0, hT, kbyte_3 hF hj hz]) (fun hF q hq => by rw [show q = 0 + (q - 0) from by omega, hT, kbyte_4 hF (by omega)]) (fun hF j hj hz q hq => by rw [show q = 0 + (q - 0) from by omega, hT, kbyte_5 hF hj hz (by omega)]) hix hx31 (fun g H locs ls hP hD hS => ?_) _ H locs ls (fun q hq => absurd hq (Nat.not_lt_zero q)) hP hD hS hl9
        exact W.iret (v := ktext (u.2.1 a.toNatClampNeg) x) hx hb hr (fun t9 ht9 hW9 => ⟨⟨ktext (u.2.1 a.toNatClampNeg) x, (0, u.2.1, g), rfl, ⟨rfl, by rw [if_pos ⟨c_2, c_4⟩]; exact ⟨by rw [hix, nI_clamp hx31], rfl⟩⟩, by rw [ht9]; exact hP, va_K.moved hW9.alike hK, hD⟩, hS.F ht9⟩) hS.2.2 dX1_print_223 hlocks
      · refine lv_aload_n hx hb dX1_print_47 rfl (lv_at hl 2 rfl) ?_
        refine va_get (ci := 1) (v := .ref m2) (C := RX1) (T := TX1) (N := 3) hx hb hts (fun w h => hs _ (inX1g w h)) hown hK hP 0 rfl rfl 2 (by decide) (hts _ (hs _ fl_X1_13)) (fun _ h9 => h9) rfl dX1_print_48 ?_
        refine lv_iload_n hx hb dX1_print_51 rfl (lv_at hl 1 rfl) ?_
        refine lv_iinc (lv' := [(3, .int ((0 : Int32) + 1)), (4, .long (jX1_size (u.2.1 a.toNatClampNeg))), (0, .ref m0), (1, .int a), (2, .int i)]) hx hb dX1_print_52 hl (k := 1) rfl rfl (by decide) rfl (fun ls hl => ?_)
        refine lv_bipush (v := 45) hx hb dX1_print_55 (by decide) ?_
        refine va_iast hx hb hK hP hD hS 2 1 rfl rfl (vp_in_nI (n := 0) (by decide) (by decide)) dX1_print_57 (fun H locs hP hD hS => ?_)
        have hP : va_P D vwCl (wM m0 m1 m2 cJ cI ((0 : Int32), u.2.1, (upd u.2.2 (0 : Int32).toNatClampNeg (45 : Int32)))) H := hP
        have hD : va_D A (wM m0 m1 m2 cJ cI ((0 : Int32), u.2.1, (upd u.2.2 (0 : Int32).toNatClampNeg (45 : Int32)))) := hD
        have hv := hbd c_2
        have hle := usz_le hv
        obtain ⟨w1, w2, w3, w4⟩ := kwd_spec (W := usz (u.2.1 a.toNatClampNeg) / 10000) (by omega)
        obtain ⟨x, hx31, hix⟩ := nI_of (Int32.not_lt.mpr c_4)
        have hT := fun q => ktext_at (v := (u.2.1 a.toNatClampNeg)) (n0 := 1) (Or.inl ⟨Int64.not_le.mp c_6, rfl⟩) q
        have hl9 := lv_sub hl [0, 1, 2, 3, 4] rfl
        rw [size_lN hv] at hl9
        refine ktail (T := ktext (u.2.1 a.toNatClampNeg)) (n0 := 1) S hK (by omega) w1 w2 w3 w4 (by omega) (fun d hd => by rw [hT, kbyte_1 hd]) (fun hF => by rw [hT, kbyte_2 hF]) (fun hF j hj hz => by rw [Nat.add_assoc 1, Nat.add_assoc 1, hT, kbyte_3 hF hj hz]) (fun hF q hq => by rw [show q = 1 + (q - 1) from by omega, hT, kbyte_4 hF (by omega)]) (fun hF j hj hz q hq => by rw [show q = 1 + (q - 1) from by omega, hT, kbyte_5 hF hj hz (by omega)]) hix hx31 (fun g H locs ls hP hD hS => ?_) _ H locs ls (fun q hq => ?_) hP hD hS hl9
        · exact W.iret (v := ktext (u.2.1 a.toNatClampNeg) x) hx hb hr (fun t9 ht9 hW9 => ⟨⟨ktext (u.2.1 a.toNatClampNeg) x, (0, u.2.1, g), rfl, ⟨rfl, by rw [if_pos ⟨c_2, c_4⟩]; exact ⟨by rw [hix, nI_clamp hx31], rfl⟩⟩, by rw [ht9]; exact hP, va_K.moved hW9.alike hK, hD⟩, hS.F ht9⟩) hS.2.2 dX1_print_223 hlocks
        · have hq0 : q = 0 := by omega
          subst hq0
          rw [ktext, if_pos (Int64.not_le.mp c_6), if_pos rfl]
          rfl
    · refine lv_aload_n hx hb dX1_print_17 rfl (lv_at hl 0 rfl) ?_
      refine lv_iconst (v := 1) hx hb dX1_print_18 (by decide) ?_
      refine g_callMi S hs (tX1_fail l t D m0 m1 m2 cJ cI ((0 : Int32), u.2.1, u.2.2) (1 : Int32)) rfl ml_X1_29 im_yX1_fail se_yX1_fail cd_yX1_fail hd_yX1_fail ⟨by decide, by decide⟩ hE hS hA hP hK hD hl.1 rfl (Nat.le_of_ble_eq_true rfl) ⟨by decide, by decide⟩ dX1_print_19 (fun r_7 u_7 H locs hr_7 hP hD hS => ?_)
      obtain ⟨rfl, rfl⟩ := hr_7
      exact W.iret (v := (kfail ((0 : Int32), u.2.1, u.2.2) (1 : Int32)).1) hx hb hr (fun t9 ht9 hW9 => ⟨⟨(kfail ((0 : Int32), u.2.1, u.2.2) (1 : Int32)).1, (kfail ((0 : Int32), u.2.1, u.2.2) (1 : Int32)).2, rfl, ⟨rfl, by rw [if_neg (fun q => c_4 q.2)]; rfl⟩, by rw [ht9]; exact hP, va_K.moved hW9.alike hK, hD⟩, hS.F ht9⟩) hS.2.2 dX1_print_22 hlocks
