/-! ===== the reference: round, average, the constructor ===== -/
theorem gP_10 (k : Nat) : gP k * (10 : Int64) = gP (k + 1) := by
  unfold gP
  rw [show (10 : Int64) = lN 10 from by decide, lN_mul, Nat.pow_succ]
theorem g_r1 : ∀ j, j < 14 → ¬ (4 : Int32) ≤ (4 : Int32) - nI (j + 1) := by decide
theorem g_r2 (j : Nat) : (4 : Int32) - nI (j + 1) + 1 = (4 : Int32) - nI j := by
  rw [← nI_1]
  generalize nI j = x
  grind
section GL
variable {p : Program} {l : Launch} {e : Env} {s : State} {m : MethodId} {args : Array Value} {below : List Frame} {meth : Method} {c : Code} {H : Heap} {locs : List Loc} {Q : State → Prop}
set_option maxHeartbeats 4000000 in
set_option maxRecDepth 100000 in
theorem kround_loop {R : Room} {cells slots : Nat} (hx : p.tables.exec = Jvm.exec) (hb : c.code = cX1_round) (hown : s.vm.findClass RX1 = some m.cls) (h10 : (Cond.constantLong RX1 58 (10)).before args s = true) {m0 J : Nat} {r a : Int32} (hJ : J ≤ 13)
    (kk : ∀ ls : Array Slot, lv_has ls 12 [(4, .long (gP J)), (0, .ref m0), (1, .int r), (2, .int a)] → W p l e R s m args below meth c H locs cells slots Q (F0 m 65 ls [])) :
    ∀ j : Nat, j ≤ J → ∀ ls : Array Slot, lv_has ls 12 [(6, .int ((4 : Int32) - nI j)), (4, .long (gP (J - j))), (0, .ref m0), (1, .int r), (2, .int a)] → W p l e R s m args below meth c H locs cells slots Q (F0 m 45 ls []) := by
  intro j
  induction j with
  | zero =>
    intro _ ls hl
    refine lv_iload hx hb dX1_round_45 (lv_at hl 0 rfl) ?_
    refine lv_iconst (v := 4) hx hb dX1_round_47 (by decide) ?_
    refine lv_icmp_ge (tgt := 65) hx hb dX1_round_48 (by decide) (fun _ => kk ls (lv_sub hl [1, 2, 3, 4] rfl)) (fun c_1 => absurd (by decide) c_1)
  | succ j ih =>
    intro hj ls hl
    refine lv_iload hx hb dX1_round_45 (lv_at hl 0 rfl) ?_
    refine lv_iconst (v := 4) hx hb dX1_round_47 (by decide) ?_
    refine lv_icmp_ge (tgt := 65) hx hb dX1_round_48 (by decide) (fun c_1 => absurd c_1 (g_r1 j (by omega))) (fun c_1 => ?_)
    refine lv_lload hx hb dX1_round_51 (lv_at hl 1 rfl) ?_
    refine lv_ldc2 hx hb hown h10 dX1_round_53 ?_
    refine lv_lmul hx hb dX1_round_56 ?_
    rw [gP_10, show J - (j + 1) + 1 = J - j from by omega]
    refine lv_lstore (lv' := [(4, .long (gP (J - j))), (6, .int ((4 : Int32) - nI (j + 1))), (0, .ref m0), (1, .int r), (2, .int a)]) hx hb dX1_round_57 hl (by decide) rfl (fun ls hl => ?_)
    refine lv_iinc (lv' := [(6, .int ((4 : Int32) - nI (j + 1) + 1)), (4, .long (gP (J - j))), (0, .ref m0), (1, .int r), (2, .int a)]) hx hb dX1_round_59 hl (k := 1) rfl rfl (by decide) rfl (fun ls hl => ?_)
    refine lv_goto (tgt := 45) hx hb dX1_round_62 (by decide) ?_
    rw [g_r2] at hl
    exact ih (by omega) ls hl
/-- the reference's running sum: none where a sum on the way is too great -/
def kavgF (f : Nat → Int64) (n : Nat) : Nat → Nat → Int64 → Option Int64
  | 0, _, v => some v
  | i + 1, k, v => if k < n then (if jX1_size (v + f k) ≤ (900000000000000 : Int64) then kavgF f n i (k + 1) (v + f k) else none) else some v
def kopt {α : Type} (o : Option Int64) (a : α) (f : Int64 → α) : α := match o with
  | none => a
  | some v => f v
theorem kopt_none {α : Type} (a : α) (f : Int64 → α) : kopt none a f = a := rfl
theorem kopt_some {α : Type} (v : Int64) (a : α) (f : Int64 → α) : kopt (some v) a f = f v := rfl
theorem g_n8K : ∀ N, N < 9 → 1 ≤ N → ¬ (10000 : Int64) * (nI N).toInt64 = 0 := by decide
set_option maxHeartbeats 4000000 in
set_option maxRecDepth 100000 in
theorem kavg_loop {t : Nat} {D : va_G} {m0 m1 m2 N : Nat} {cJ cI : ClassId} {u : mS} {n : Int32} {A : Nat → Prop} (S : CallFix p m c cX1_average 6 s args (Cond.code yX1_average cX1_average 6 (some .long) :: gws) RX1) (hE : gE t A s s.heap) (hS : va_S A s.heap H locs) (hA : ∀ q, s.heap.size ≤ q → A q) (hP : va_P D vwCl (wM m0 m1 m2 cJ cI u) H) (hK : va_K D vwCl [(cJ, .long), (cI, .int)] s) (hN : n = nI N) (hN8 : N ≤ 8)
    (kf : kavgF u.2.1 N 9 0 0 = none → ∀ ls : Array Slot, lv_has ls 6 [(0, .ref m0)] → W p l e { frames := 2, cells := 0, slots := 0, locals := 60 } s m args below meth c H locs 0 0 Q (F0 m 55 ls []))
    (kd : ∀ v : Int64, kavgF u.2.1 N 9 0 0 = some v → ∀ ls : Array Slot, lv_has ls 6 [(2, .long v), (0, .ref m0), (1, .int n)] → W p l e { frames := 2, cells := 0, slots := 0, locals := 60 } s m args below meth c H locs 0 0 Q (F0 m 68 ls [])) :
    ∀ (i k : Nat) (v : Int64) (ls : Array Slot), k ≤ N → N < k + i → kavgF u.2.1 N i k v = kavgF u.2.1 N 9 0 0 → lv_has ls 6 [(4, .int (nI k)), (2, .long v), (0, .ref m0), (1, .int n)] → W p l e { frames := 2, cells := 0, slots := 0, locals := 60 } s m args below meth c H locs 0 0 Q (F0 m 28 ls []) := by
  obtain ⟨hx, hb, hml, hown, hts⟩ := id S
  have hs : ∀ w ∈ gws, w ∈ Cond.code yX1_average cX1_average 6 (some .long) :: gws := fun w h => List.mem_cons_of_mem _ h
  subst hN
  intro i
  induction i with
  | zero => intro k v ls h1 h2; omega
  | succ i ih =>
    intro k v ls hk hi heq hl
    refine lv_iload hx hb dX1_average_28 (lv_at hl 0 rfl) ?_
    refine lv_iload_n hx hb dX1_average_30 rfl (lv_at hl 3 rfl) ?_
    refine lv_icmp_ge (tgt := 68) hx hb dX1_average_31 (by decide) (fun c_3 => ?_) (fun c_3 => ?_)
    · rw [nI_leI (by omega) (by omega)] at c_3
      exact kd v (by rw [← heq, kavgF, if_neg (by omega)]) ls (lv_sub hl [1, 2, 3] rfl)
    · rw [nI_leI (by omega) (by omega)] at c_3
      refine lv_lload_n hx hb dX1_average_34 rfl (lv_at hl 1 rfl) ?_
      refine lv_aload_n hx hb dX1_average_35 rfl (lv_at hl 2 rfl) ?_
      refine va_get (ci := 1) (v := .ref m1) (C := RX1) (T := TX1) (N := 3) hx hb hts (fun w h => hs _ (inX1g w h)) hown hK hP 0 rfl rfl 1 (by decide) (hts _ (hs _ fl_X1_7)) (fun _ h9 => h9) rfl dX1_average_36 ?_
      refine lv_iload hx hb dX1_average_39 (lv_at hl 0 rfl) ?_
      refine va_lald hx hb hK hP 1 0 rfl rfl (vp_in_nI (by omega) (by decide)) dX1_average_41 ?_
      refine lv_ladd hx hb dX1_average_42 ?_
      rw [nI_clamp (by omega)]
      refine lv_lstore_n (lv' := [(2, .long (v + u.2.1 k)), (4, .int (nI k)), (0, .ref m0), (1, .int (nI N))]) hx hb dX1_average_43 rfl hl (by decide) rfl (fun ls hl => ?_)
      refine lv_lload_n hx hb dX1_average_44 rfl (lv_at hl 0 rfl) ?_
      refine g_callSl S hs (tX1_size l t (v + u.2.1 k)) ml_X1_39 st_yX1_size in_X1 cd_yX1_size hd_yX1_size ⟨by decide, by decide⟩ hE hS hA hl.1 rfl (Nat.le_of_ble_eq_true rfl) ⟨by decide, by decide⟩ dX1_average_45 (fun r_1 hr_1 => ?_)
      subst hr_1
      refine lv_ldc2 hx hb hown (hts _ (hs _ kl_X1_27)) dX1_average_48 ?_
      refine g_lc_le (tgt := 62) hx hb dX1_average_51 dX1_average_52 (by decide) (fun c_4 => ?_) (fun c_4 => ?_)
      · refine lv_iinc (lv' := [(4, .int (nI k + 1)), (2, .long (v + u.2.1 k)), (0, .ref m0), (1, .int (nI N))]) hx hb dX1_average_62 hl (k := 1) rfl rfl (by decide) rfl (fun ls hl => ?_)
        refine lv_goto (tgt := 28) hx hb dX1_average_65 (by decide) ?_
        exact ih (k + 1) (v + u.2.1 k) ls (by omega) (by omega) (by rw [← heq, kavgF, if_pos (by omega), if_pos c_4]) (by rw [← nI_1]; exact hl)
      · exact kf (by rw [← heq, kavgF, if_pos (by omega), if_neg c_4]) ls (lv_sub hl [2] rfl)
end GL
def kround (u : mS) (r : Int32) (a : Int32) (d : Int32) : Int64 × mS :=
  if (kout r) = (0 : Int32) then
    if (kout a) = (0 : Int32) then
      if d < (-9 : Int32) then
        (((kfail ((0 : Int32), u.2.1, u.2.2) (1 : Int32)).1).toInt64, (kfail ((0 : Int32), u.2.1, u.2.2) (1 : Int32)).2)
      else if d ≤ (4 : Int32) then
        if ((jX1_size (u.2.1 a.toNatClampNeg)) - (((jX1_size (u.2.1 a.toNatClampNeg)) / (gP ((4 : Int32) - d).toNatClampNeg)) * (gP ((4 : Int32) - d).toNatClampNeg))) < ((gP ((4 : Int32) - d).toNatClampNeg) - ((jX1_size (u.2.1 a.toNatClampNeg)) - (((jX1_size (u.2.1 a.toNatClampNeg)) / (gP ((4 : Int32) - d).toNatClampNeg)) * (gP ((4 : Int32) - d).toNatClampNeg)))) then
          if (0 : Int64) ≤ (u.2.1 a.toNatClampNeg) then
            ((kput ((0 : Int32), u.2.1, u.2.2) r (0 : Int32) (((jX1_size (u.2.1 a.toNatClampNeg)) / (gP ((4 : Int32) - d).toNatClampNeg)) * (gP ((4 : Int32) - d).toNatClampNeg)) (2 : Int32)).1, (kput ((0 : Int32), u.2.1, u.2.2) r (0 : Int32) (((jX1_size (u.2.1 a.toNatClampNeg)) / (gP ((4 : Int32) - d).toNatClampNeg)) * (gP ((4 : Int32) - d).toNatClampNeg)) (2 : Int32)).2)
          else ((kput ((0 : Int32), u.2.1, u.2.2) r (1 : Int32) (((jX1_size (u.2.1 a.toNatClampNeg)) / (gP ((4 : Int32) - d).toNatClampNeg)) * (gP ((4 : Int32) - d).toNatClampNeg)) (2 : Int32)).1, (kput ((0 : Int32), u.2.1, u.2.2) r (1 : Int32) (((jX1_size (u.2.1 a.toNatClampNeg)) / (gP ((4 : Int32) - d).toNatClampNeg)) * (gP ((4 : Int32) - d).toNatClampNeg)) (2 : Int32)).2)
        else if (0 : Int64) ≤ (u.2.1 a.toNatClampNeg) then
          ((kput ((0 : Int32), u.2.1, u.2.2) r (0 : Int32) ((((jX1_size (u.2.1 a.toNatClampNeg)) / (gP ((4 : Int32) - d).toNatClampNeg)) * (gP ((4 : Int32) - d).toNatClampNeg)) + (gP ((4 : Int32) - d).toNatClampNeg)) (2 : Int32)).1, (kput ((0 : Int32), u.2.1, u.2.2) r (0 : Int32) ((((jX1_size (u.2.1 a.toNatClampNeg)) / (gP ((4 : Int32) - d).toNatClampNeg)) * (gP ((4 : Int32) - d).toNatClampNeg)) + (gP ((4 : Int32) - d).toNatClampNeg)) (2 : Int32)).2)
        else ((kput ((0 : Int32), u.2.1, u.2.2) r (1 : Int32) ((((jX1_size (u.2.1 a.toNatClampNeg)) / (gP ((4 : Int32) - d).toNatClampNeg)) * (gP ((4 : Int32) - d).toNatClampNeg)) + (gP ((4 : Int32) - d).toNatClampNeg)) (2 : Int32)).1, (kput ((0 : Int32), u.2.1, u.2.2) r (1 : Int32) ((((jX1_size (u.2.1 a.toNatClampNeg)) / (gP ((4 : Int32) - d).toNatClampNeg)) * (gP ((4 : Int32) - d).toNatClampNeg)) + (gP ((4 : Int32) - d).toNatClampNeg)) (2 : Int32)).2)
      else (((kfail ((0 : Int32), u.2.1, u.2.2) (1 : Int32)).1).toInt64, (kfail ((0 : Int32), u.2.1, u.2.2) (1 : Int32)).2)
    else (((kfail ((0 : Int32), u.2.1, u.2.2) (1 : Int32)).1).toInt64, (kfail ((0 : Int32), u.2.1, u.2.2) (1 : Int32)).2)
  else (((kfail ((0 : Int32), u.2.1, u.2.2) (1 : Int32)).1).toInt64, (kfail ((0 : Int32), u.2.1, u.2.2) (1 : Int32)).2)
set_option maxHeartbeats 4000000 in
set_option maxRecDepth 100000 in
theorem tX1_round (l : Launch) (t : Nat) (D : va_G) (m0 m1 m2 : Nat) (cJ cI : ClassId) (u : mS) (r : Int32) (a : Int32) (d : Int32) : gMl l yX1_round cX1_round 12 { frames := 2, cells := 0, slots := 0, locals := 60 } t D m0 m1 m2 cJ cI u [.int r, .int a, .int d] (fun z9 u9 => z9 = (kround u r a d).1 ∧ u9 = (kround u r a d).2) := by
  refine g_openMl (by decide +kernel) (Nat.le_of_ble_eq_true rfl) ?_
  intro p e s m below meth c ls A hA S hr hlocks hE hP hK hD hl
  obtain ⟨hx, hb, hml, hown, hts⟩ := id S
  have hs : ∀ w ∈ gws, w ∈ Cond.code yX1_round cX1_round 12 (some .long) :: gws := fun w h => List.mem_cons_of_mem _ h
  have hS : va_S A s.heap s.heap [] := va_S.rf
  have hl : lv_has ls 12 [(0, .ref m0), (1, .int r), (2, .int a), (3, .int d)] := hl
  refine lv_aload_n hx hb dX1_round_0 rfl (lv_at hl 0 rfl) ?_
  refine lv_iconst (v := 0) hx hb dX1_round_1 (by decide) ?_
  refine va_put (ci := 1) (v := .int (0 : Int32)) (ty := .int) (C := RX1) (T := TX1) (N := 3) hx hb hts (fun w h => hs _ (inX1g w h)) tyX1 tyX1_ok nmX1 hown hK hP hD hS 0 rfl rfl 0 (by decide) (hts _ (hs _ fl_X1_17)) (fun _ h9 => h9) rfl (by decide +kernel) rfl rfl (Nat.le_of_ble_eq_true rfl) dX1_round_2 (fun H locs hP hD hS => ?_)
  have hP : va_P D vwCl (wM m0 m1 m2 cJ cI ((0 : Int32), u.2.1, u.2.2)) H := hP
  have hD : va_D A (wM m0 m1 m2 cJ cI ((0 : Int32), u.2.1, u.2.2)) := hD
  refine lv_aload_n hx hb dX1_round_5 rfl (lv_at hl 0 rfl) ?_
  refine lv_iload_n hx hb dX1_round_6 rfl (lv_at hl 1 rfl) ?_
  refine g_callPi S hs (tX1_out l m0 r) (va_recv hK hP (ci := 1) (q0 := 0) rfl rfl) ml_X1_21 im_yX1_out se_yX1_out in_X1 cd_yX1_out hd_yX1_out ⟨by decide, by decide⟩ hl.1 rfl (Nat.le_of_ble_eq_true rfl) ⟨by decide, by decide⟩ dX1_round_7 (fun r_1 hr_1 => ?_)
  subst hr_1
  refine lv_if_ne (tgt := 32) hx hb dX1_round_10 (by decide) (fun c_2 => ?_) (fun c_2 => ?_)
  · refine lv_aload_n hx hb dX1_round_32 rfl (lv_at hl 0 rfl) ?_
    refine lv_iconst (v := 1) hx hb dX1_round_33 (by decide) ?_
    refine g_callMi S hs (tX1_fail l t D m0 m1 m2 cJ cI ((0 : Int32), u.2.1, u.2.2) (1 : Int32)) rfl ml_X1_29 im_yX1_fail se_yX1_fail cd_yX1_fail hd_yX1_fail ⟨by decide, by decide⟩ hE hS hA hP hK hD hl.1 rfl (Nat.le_of_ble_eq_true rfl) ⟨by decide, by decide⟩ dX1_round_34 (fun r_3 u_3 H locs hr_3 hP hD hS => ?_)
    obtain ⟨rfl, rfl⟩ := hr_3
    refine lv_i2l hx hb dX1_round_37 rfl ?_
    exact W.lret (v := ((kfail ((0 : Int32), u.2.1, u.2.2) (1 : Int32)).1).toInt64) hx hb hr (fun t9 ht9 hW9 => ⟨⟨((kfail ((0 : Int32), u.2.1, u.2.2) (1 : Int32)).1).toInt64, (kfail ((0 : Int32), u.2.1, u.2.2) (1 : Int32)).2, rfl, (⟨by rw [kround, if_neg c_2], by rw [kround, if_neg c_2]⟩), by rw [ht9]; exact hP, va_K.moved hW9.alike hK, hD⟩, hS.F ht9⟩) hS.2.2 dX1_round_38 hlocks
  · refine lv_aload_n hx hb dX1_round_13 rfl (lv_at hl 0 rfl) ?_
    refine lv_iload_n hx hb dX1_round_14 rfl (lv_at hl 2 rfl) ?_
    refine g_callPi S hs (tX1_out l m0 a) (va_recv hK hP (ci := 1) (q0 := 0) rfl rfl) ml_X1_21 im_yX1_out se_yX1_out in_X1 cd_yX1_out hd_yX1_out ⟨by decide, by decide⟩ hl.1 rfl (Nat.le_of_ble_eq_true rfl) ⟨by decide, by decide⟩ dX1_round_15 (fun r_4 hr_4 => ?_)
    subst hr_4
    refine lv_if_ne (tgt := 32) hx hb dX1_round_18 (by decide) (fun c_5 => ?_) (fun c_5 => ?_)
    · refine lv_aload_n hx hb dX1_round_32 rfl (lv_at hl 0 rfl) ?_
      refine lv_iconst (v := 1) hx hb dX1_round_33 (by decide) ?_
      refine g_callMi S hs (tX1_fail l t D m0 m1 m2 cJ cI ((0 : Int32), u.2.1, u.2.2) (1 : Int32)) rfl ml_X1_29 im_yX1_fail se_yX1_fail cd_yX1_fail hd_yX1_fail ⟨by decide, by decide⟩ hE hS hA hP hK hD hl.1 rfl (Nat.le_of_ble_eq_true rfl) ⟨by decide, by decide⟩ dX1_round_34 (fun r_6 u_6 H locs hr_6 hP hD hS => ?_)
      obtain ⟨rfl, rfl⟩ := hr_6
      refine lv_i2l hx hb dX1_round_37 rfl ?_
      exact W.lret (v := ((kfail ((0 : Int32), u.2.1, u.2.2) (1 : Int32)).1).toInt64) hx hb hr (fun t9 ht9 hW9 => ⟨⟨((kfail ((0 : Int32), u.2.1, u.2.2) (1 : Int32)).1).toInt64, (kfail ((0 : Int32), u.2.1, u.2.2) (1 : Int32)).2, rfl, (⟨by rw [kround, if_pos c_2, if_neg c_5], by rw [kround, if_pos c_2, if_neg c_5]⟩), by rw [ht9]; exact hP, va_K.moved hW9.alike hK, hD⟩, hS.F ht9⟩) hS.2.2 dX1_round_38 hlocks
    · refine lv_iload_n hx hb dX1_round_21 rfl (lv_at hl 3 rfl) ?_
      refine lv_bipush (v := (-9)) hx hb dX1_round_22 (by decide) ?_
      refine lv_icmp_lt (tgt := 32) hx hb dX1_round_24 (by decide) (fun c_7 => ?_) (fun c_7 => ?_)
      · refine lv_aload_n hx hb dX1_round_32 rfl (lv_at hl 0 rfl) ?_
        refine lv_iconst (v := 1) hx hb dX1_round_33 (by decide) ?_
        refine g_callMi S hs (tX1_fail l t D m0 m1 m2 cJ cI ((0 : Int32), u.2.1, u.2.2) (1 : Int32)) rfl ml_X1_29 im_yX1_fail se_yX1_fail cd_yX1_fail hd_yX1_fail ⟨by decide, by decide⟩ hE hS hA hP hK hD hl.1 rfl (Nat.le_of_ble_eq_true rfl) ⟨by decide, by decide⟩ dX1_round_34 (fun r_8 u_8 H locs hr_8 hP hD hS => ?_)
        obtain ⟨rfl, rfl⟩ := hr_8
        refine lv_i2l hx hb dX1_round_37 rfl ?_
        exact W.lret (v := ((kfail ((0 : Int32), u.2.1, u.2.2) (1 : Int32)).1).toInt64) hx hb hr (fun t9 ht9 hW9 => ⟨⟨((kfail ((0 : Int32), u.2.1, u.2.2) (1 : Int32)).1).toInt64, (kfail ((0 : Int32), u.2.1, u.2.2) (1 : Int32)).2, rfl, (⟨by rw [kround, if_pos c_2, if_pos c_5, if_pos c_7], by rw [kround, if_pos c_2, if_pos c_5, if_pos c_7]⟩), by rw [ht9]; exact hP, va_K.moved hW9.alike hK, hD⟩, hS.F ht9⟩) hS.2.2 dX1_round_38 hlocks
      · refine lv_iload_n hx hb dX1_round_27 rfl (lv_at hl 3 rfl) ?_
        refine lv_iconst (v := 4) hx hb dX1_round_28 (by decide) ?_
        refine lv_icmp_le (tgt := 39) hx hb dX1_round_29 (by decide) (fun c_9 => ?_) (fun c_9 => ?_)
        · refine lv_lconst (v := 1) hx hb dX1_round_39 (by decide) ?_
          refine lv_lstore (lv' := [(4, .long (1 : Int64)), (0, .ref m0), (1, .int r), (2, .int a), (3, .int d)]) hx hb dX1_round_40 hl (by decide) rfl (fun ls hl => ?_)
          refine lv_iload_n hx hb dX1_round_42 rfl (lv_at hl 4 rfl) ?_
          refine lv_istore (lv' := [(6, .int d), (4, .long (1 : Int64)), (0, .ref m0), (1, .int r), (2, .int a), (3, .int d)]) hx hb dX1_round_43 hl (by decide) rfl (fun ls hl => ?_)
          obtain ⟨J, hJ, eJ⟩ := vp_in_of (g_ixD c_7 c_9) (by decide)
          have hd9 : d = (4 : Int32) - nI J := by rw [← eJ]; grind
          have eP : gP J = gP ((4 : Int32) - d).toNatClampNeg := by rw [eJ, nI_clamp (by omega)]
          have hl' : lv_has ls 12 [(6, .int d), (4, .long (gP (J - J))), (0, .ref m0), (1, .int r), (2, .int a)] := by rw [Nat.sub_self]; exact lv_sub hl [0, 1, 2, 3, 4] rfl
          have hl' : lv_has ls 12 [(6, .int ((4 : Int32) - nI J)), (4, .long (gP (J - J))), (0, .ref m0), (1, .int r), (2, .int a)] := by rw [← hd9]; exact hl'
          refine kround_loop hx hb hown (hts _ (hs _ kl_X1_58)) (by omega) (fun ls hl => ?_) J (Nat.le_refl J) ls hl'
          rw [eP] at hl
          refine lv_aload_n hx hb dX1_round_65 rfl (lv_at hl 1 rfl) ?_
          refine va_get (ci := 1) (v := .ref m1) (C := RX1) (T := TX1) (N := 3) hx hb hts (fun w h => hs _ (inX1g w h)) hown hK hP 0 rfl rfl 1 (by decide) (hts _ (hs _ fl_X1_7)) (fun _ h9 => h9) rfl dX1_round_66 ?_
          refine lv_iload_n hx hb dX1_round_69 rfl (lv_at hl 3 rfl) ?_
          refine va_lald hx hb hK hP 1 0 rfl rfl (out_in c_5) dX1_round_70 ?_
          refine lv_lstore (lv' := [(6, .long (u.2.1 a.toNatClampNeg)), (4, .long (gP ((4 : Int32) - d).toNatClampNeg)), (0, .ref m0), (1, .int r), (2, .int a)]) hx hb dX1_round_71 hl (by decide) rfl (fun ls hl => ?_)
          refine lv_lload hx hb dX1_round_73 (lv_at hl 0 rfl) ?_
          refine g_callSl S hs (tX1_size l t (u.2.1 a.toNatClampNeg)) ml_X1_39 st_yX1_size in_X1 cd_yX1_size hd_yX1_size ⟨by decide, by decide⟩ hE hS hA hl.1 rfl (Nat.le_of_ble_eq_true rfl) ⟨by decide, by decide⟩ dX1_round_75 (fun r_10 hr_10 => ?_)
          subst hr_10
          refine lv_lload hx hb dX1_round_78 (lv_at hl 1 rfl) ?_
          refine lv_ldiv hx hb dX1_round_80 (gP_ne (g_ixD (by assumption) (by assumption))) ?_
          refine lv_lload hx hb dX1_round_81 (lv_at hl 1 rfl) ?_
          refine lv_lmul hx hb dX1_round_83 ?_
          refine lv_lstore (lv' := [(8, .long (((jX1_size (u.2.1 a.toNatClampNeg)) / (gP ((4 : Int32) - d).toNatClampNeg)) * (gP ((4 : Int32) - d).toNatClampNeg))), (6, .long (u.2.1 a.toNatClampNeg)), (4, .long (gP ((4 : Int32) - d).toNatClampNeg)), (0, .ref m0), (1, .int r), (2, .int a)]) hx hb dX1_round_84 hl (by decide) rfl (fun ls hl => ?_)
          refine lv_lload hx hb dX1_round_86 (lv_at hl 1 rfl) ?_
          refine g_callSl S hs (tX1_size l t (u.2.1 a.toNatClampNeg)) ml_X1_39 st_yX1_size in_X1 cd_yX1_size hd_yX1_size ⟨by decide, by decide⟩ hE hS hA hl.1 rfl (Nat.le_of_ble_eq_true rfl) ⟨by decide, by decide⟩ dX1_round_88 (fun r_11 hr_11 => ?_)
          subst hr_11
          refine lv_lload hx hb dX1_round_91 (lv_at hl 0 rfl) ?_
          refine lv_lsub hx hb dX1_round_93 ?_
          refine lv_lstore (lv' := [(10, .long ((jX1_size (u.2.1 a.toNatClampNeg)) - (((jX1_size (u.2.1 a.toNatClampNeg)) / (gP ((4 : Int32) - d).toNatClampNeg)) * (gP ((4 : Int32) - d).toNatClampNeg)))), (8, .long (((jX1_size (u.2.1 a.toNatClampNeg)) / (gP ((4 : Int32) - d).toNatClampNeg)) * (gP ((4 : Int32) - d).toNatClampNeg))), (6, .long (u.2.1 a.toNatClampNeg)), (4, .long (gP ((4 : Int32) - d).toNatClampNeg)), (0, .ref m0), (1, .int r), (2, .int a)]) hx hb dX1_round_94 hl (by decide) rfl (fun ls hl => ?_)
          refine lv_lload hx hb dX1_round_96 (lv_at hl 0 rfl) ?_
          refine lv_lload hx hb dX1_round_98 (lv_at hl 3 rfl) ?_
          refine lv_lload hx hb dX1_round_100 (lv_at hl 0 rfl) ?_
          refine lv_lsub hx hb dX1_round_102 ?_
          refine g_lc_lt (tgt := 114) hx hb dX1_round_103 dX1_round_104 (by decide) (fun c_12 => ?_) (fun c_12 => ?_)
          · refine lv_aload_n hx hb dX1_round_114 rfl (lv_at hl 4 rfl) ?_
            refine lv_iload_n hx hb dX1_round_115 rfl (lv_at hl 5 rfl) ?_
            refine lv_lload hx hb dX1_round_116 (lv_at hl 2 rfl) ?_
            refine lv_lconst (v := 0) hx hb dX1_round_118 (by decide) ?_
            refine g_lc_ge (tgt := 127) hx hb dX1_round_119 dX1_round_120 (by decide) (fun c_13 => ?_) (fun c_13 => ?_)
            · refine lv_iconst (v := 0) hx hb dX1_round_127 (by decide) ?_
              refine lv_lload hx hb dX1_round_128 (lv_at hl 1 rfl) ?_
              refine lv_iconst (v := 2) hx hb dX1_round_130 (by decide) ?_
              refine g_callMl S hs (tX1_put l t D m0 m1 m2 cJ cI ((0 : Int32), u.2.1, u.2.2) r (0 : Int32) (((jX1_size (u.2.1 a.toNatClampNeg)) / (gP ((4 : Int32) - d).toNatClampNeg)) * (gP ((4 : Int32) - d).toNatClampNeg)) (2 : Int32) (out_in (by assumption))) rfl ml_X1_43 im_yX1_put se_yX1_put cd_yX1_put hd_yX1_put ⟨by decide, by decide⟩ hE hS hA hP hK hD hl.1 rfl (Nat.le_of_ble_eq_true rfl) ⟨by decide, by decide⟩ dX1_round_131 (fun r_14 u_14 H locs hr_14 hP hD hS => ?_)
              obtain ⟨rfl, rfl⟩ := hr_14
              exact W.lret (v := (kput ((0 : Int32), u.2.1, u.2.2) r (0 : Int32) (((jX1_size (u.2.1 a.toNatClampNeg)) / (gP ((4 : Int32) - d).toNatClampNeg)) * (gP ((4 : Int32) - d).toNatClampNeg)) (2 : Int32)).1) hx hb hr (fun t9 ht9 hW9 => ⟨⟨(kput ((0 : Int32), u.2.1, u.2.2) r (0 : Int32) (((jX1_size (u.2.1 a.toNatClampNeg)) / (gP ((4 : Int32) - d).toNatClampNeg)) * (gP ((4 : Int32) - d).toNatClampNeg)) (2 : Int32)).1, (kput ((0 : Int32), u.2.1, u.2.2) r (0 : Int32) (((jX1_size (u.2.1 a.toNatClampNeg)) / (gP ((4 : Int32) - d).toNatClampNeg)) * (gP ((4 : Int32) - d).toNatClampNeg)) (2 : Int32)).2, rfl, (⟨by rw [kround, if_pos c_2, if_pos c_5, if_neg c_7, if_pos c_9, if_pos c_12, if_pos c_13], by rw [kround, if_pos c_2, if_pos c_5, if_neg c_7, if_pos c_9, if_pos c_12, if_pos c_13]⟩), by rw [ht9]; exact hP, va_K.moved hW9.alike hK, hD⟩, hS.F ht9⟩) hS.2.2 dX1_round_134 hlocks
            · refine lv_iconst (v := 1) hx hb dX1_round_123 (by decide) ?_
              refine lv_goto (tgt := 128) hx hb dX1_round_124 (by decide) ?_
              refine lv_lload hx hb dX1_round_128 (lv_at hl 1 rfl) ?_
              refine lv_iconst (v := 2) hx hb dX1_round_130 (by decide) ?_
              refine g_callMl S hs (tX1_put l t D m0 m1 m2 cJ cI ((0 : Int32), u.2.1, u.2.2) r (1 : Int32) (((jX1_size (u.2.1 a.toNatClampNeg)) / (gP ((4 : Int32) - d).toNatClampNeg)) * (gP ((4 : Int32) - d).toNatClampNeg)) (2 : Int32) (out_in (by assumption))) rfl ml_X1_43 im_yX1_put se_yX1_put cd_yX1_put hd_yX1_put ⟨by decide, by decide⟩ hE hS hA hP hK hD hl.1 rfl (Nat.le_of_ble_eq_true rfl) ⟨by decide, by decide⟩ dX1_round_131 (fun r_15 u_15 H locs hr_15 hP hD hS => ?_)
              obtain ⟨rfl, rfl⟩ := hr_15
              exact W.lret (v := (kput ((0 : Int32), u.2.1, u.2.2) r (1 : Int32) (((jX1_size (u.2.1 a.toNatClampNeg)) / (gP ((4 : Int32) - d).toNatClampNeg)) * (gP ((4 : Int32) - d).toNatClampNeg)) (2 : Int32)).1) hx hb hr (fun t9 ht9 hW9 => ⟨⟨(kput ((0 : Int32), u.2.1, u.2.2) r (1 : Int32) (((jX1_size (u.2.1 a.toNatClampNeg)) / (gP ((4 : Int32) - d).toNatClampNeg)) * (gP ((4 : Int32) - d).toNatClampNeg)) (2 : Int32)).1, (kput ((0 : Int32), u.2.1, u.2.2) r (1 : Int32) (((jX1_size (u.2.1 a.toNatClampNeg)) / (gP ((4 : Int32) - d).toNatClampNeg)) * (gP ((4 : Int32) - d).toNatClampNeg)) (2 : Int32)).2, rfl, (⟨by rw [kround, if_pos c_2, if_pos c_5, if_neg c_7, if_pos c_9, if_pos c_12, if_neg c_13], by rw [kround, if_pos c_2, if_pos c_5, if_neg c_7, if_pos c_9, if_pos c_12, if_neg c_13]⟩), by rw [ht9]; exact hP, va_K.moved hW9.alike hK, hD⟩, hS.F ht9⟩) hS.2.2 dX1_round_134 hlocks
          · refine lv_lload hx hb dX1_round_107 (lv_at hl 1 rfl) ?_
            refine lv_lload hx hb dX1_round_109 (lv_at hl 3 rfl) ?_
            refine lv_ladd hx hb dX1_round_111 ?_
            refine lv_lstore (lv' := [(8, .long ((((jX1_size (u.2.1 a.toNatClampNeg)) / (gP ((4 : Int32) - d).toNatClampNeg)) * (gP ((4 : Int32) - d).toNatClampNeg)) + (gP ((4 : Int32) - d).toNatClampNeg))), (10, .long ((jX1_size (u.2.1 a.toNatClampNeg)) - (((jX1_size (u.2.1 a.toNatClampNeg)) / (gP ((4 : Int32) - d).toNatClampNeg)) * (gP ((4 : Int32) - d).toNatClampNeg)))), (6, .long (u.2.1 a.toNatClampNeg)), (4, .long (gP ((4 : Int32) - d).toNatClampNeg)), (0, .ref m0), (1, .int r), (2, .int a)]) hx hb dX1_round_112 hl (by decide) rfl (fun ls hl => ?_)
            refine lv_aload_n hx hb dX1_round_114 rfl (lv_at hl 4 rfl) ?_
            refine lv_iload_n hx hb dX1_round_115 rfl (lv_at hl 5 rfl) ?_
            refine lv_lload hx hb dX1_round_116 (lv_at hl 2 rfl) ?_
            refine lv_lconst (v := 0) hx hb dX1_round_118 (by decide) ?_
            refine g_lc_ge (tgt := 127) hx hb dX1_round_119 dX1_round_120 (by decide) (fun c_16 => ?_) (fun c_16 => ?_)
            · refine lv_iconst (v := 0) hx hb dX1_round_127 (by decide) ?_
              refine lv_lload hx hb dX1_round_128 (lv_at hl 0 rfl) ?_
              refine lv_iconst (v := 2) hx hb dX1_round_130 (by decide) ?_
              refine g_callMl S hs (tX1_put l t D m0 m1 m2 cJ cI ((0 : Int32), u.2.1, u.2.2) r (0 : Int32) ((((jX1_size (u.2.1 a.toNatClampNeg)) / (gP ((4 : Int32) - d).toNatClampNeg)) * (gP ((4 : Int32) - d).toNatClampNeg)) + (gP ((4 : Int32) - d).toNatClampNeg)) (2 : Int32) (out_in (by assumption))) rfl ml_X1_43 im_yX1_put se_yX1_put cd_yX1_put hd_yX1_put ⟨by decide, by decide⟩ hE hS hA hP hK hD hl.1 rfl (Nat.le_of_ble_eq_true rfl) ⟨by decide, by decide⟩ dX1_round_131 (fun r_17 u_17 H locs hr_17 hP hD hS => ?_)
              obtain ⟨rfl, rfl⟩ := hr_17
              exact W.lret (v := (kput ((0 : Int32), u.2.1, u.2.2) r (0 : Int32) ((((jX1_size (u.2.1 a.toNatClampNeg)) / (gP ((4 : Int32) - d).toNatClampNeg)) * (gP ((4 : Int32) - d).toNatClampNeg)) + (gP ((4 : Int32) - d).toNatClampNeg)) (2 : Int32)).1) hx hb hr (fun t9 ht9 hW9 => ⟨⟨(kput ((0 : Int32), u.2.1, u.2.2) r (0 : Int32) ((((jX1_size (u.2.1 a.toNatClampNeg)) / (gP ((4 : Int32) - d).toNatClampNeg)) * (gP ((4 : Int32) - d).toNatClampNeg)) + (gP ((4 : Int32) - d).toNatClampNeg)) (2 : Int32)).1, (kput ((0 : Int32), u.2.1, u.2.2) r (0 : Int32) ((((jX1_size (u.2.1 a.toNatClampNeg)) / (gP ((4 : Int32) - d).toNatClampNeg)) * (gP ((4 : Int32) - d).toNatClampNeg)) + (gP ((4 : Int32) - d).toNatClampNeg)) (2 : Int32)).2, rfl, (⟨by rw [kround, if_pos c_2, if_pos c_5, if_neg c_7, if_pos c_9, if_neg c_12, if_pos c_16], by rw [kround, if_pos c_2, if_pos c_5, if_neg c_7, if_pos c_9, if_neg c_12, if_pos c_16]⟩), by rw [ht9]; exact hP, va_K.moved hW9.alike hK, hD⟩, hS.F ht9⟩) hS.2.2 dX1_round_134 hlocks
            · refine lv_iconst (v := 1) hx hb dX1_round_123 (by decide) ?_
              refine lv_goto (tgt := 128) hx hb dX1_round_124 (by decide) ?_
              refine lv_lload hx hb dX1_round_128 (lv_at hl 0 rfl) ?_
              refine lv_iconst (v := 2) hx hb dX1_round_130 (by decide) ?_
              refine g_callMl S hs (tX1_put l t D m0 m1 m2 cJ cI ((0 : Int32), u.2.1, u.2.2) r (1 : Int32) ((((jX1_size (u.2.1 a.toNatClampNeg)) / (gP ((4 : Int32) - d).toNatClampNeg)) * (gP ((4 : Int32) - d).toNatClampNeg)) + (gP ((4 : Int32) - d).toNatClampNeg)) (2 : Int32) (out_in (by assumption))) rfl ml_X1_43 im_yX1_put se_yX1_put cd_yX1_put hd_yX1_put ⟨by decide, by decide⟩ hE hS hA hP hK hD hl.1 rfl (Nat.le_of_ble_eq_true rfl) ⟨by decide, by decide⟩ dX1_round_131 (fun r_18 u_18 H locs hr_18 hP hD hS => ?_)
              obtain ⟨rfl, rfl⟩ := hr_18
              exact W.lret (v := (kput ((0 : Int32), u.2.1, u.2.2) r (1 : Int32) ((((jX1_size (u.2.1 a.toNatClampNeg)) / (gP ((4 : Int32) - d).toNatClampNeg)) * (gP ((4 : Int32) - d).toNatClampNeg)) + (gP ((4 : Int32) - d).toNatClampNeg)) (2 : Int32)).1) hx hb hr (fun t9 ht9 hW9 => ⟨⟨(kput ((0 : Int32), u.2.1, u.2.2) r (1 : Int32) ((((jX1_size (u.2.1 a.toNatClampNeg)) / (gP ((4 : Int32) - d).toNatClampNeg)) * (gP ((4 : Int32) - d).toNatClampNeg)) + (gP ((4 : Int32) - d).toNatClampNeg)) (2 : Int32)).1, (kput ((0 : Int32), u.2.1, u.2.2) r (1 : Int32) ((((jX1_size (u.2.1 a.toNatClampNeg)) / (gP ((4 : Int32) - d).toNatClampNeg)) * (gP ((4 : Int32) - d).toNatClampNeg)) + (gP ((4 : Int32) - d).toNatClampNeg)) (2 : Int32)).2, rfl, (⟨by rw [kround, if_pos c_2, if_pos c_5, if_neg c_7, if_pos c_9, if_neg c_12, if_neg c_16], by rw [kround, if_pos c_2, if_pos c_5, if_neg c_7, if_pos c_9, if_neg c_12, if_neg c_16]⟩), by rw [ht9]; exact hP, va_K.moved hW9.alike hK, hD⟩, hS.F ht9⟩) hS.2.2 dX1_round_134 hlocks
        · refine lv_aload_n hx hb dX1_round_32 rfl (lv_at hl 0 rfl) ?_
          refine lv_iconst (v := 1) hx hb dX1_round_33 (by decide) ?_
          refine g_callMi S hs (tX1_fail l t D m0 m1 m2 cJ cI ((0 : Int32), u.2.1, u.2.2) (1 : Int32)) rfl ml_X1_29 im_yX1_fail se_yX1_fail cd_yX1_fail hd_yX1_fail ⟨by decide, by decide⟩ hE hS hA hP hK hD hl.1 rfl (Nat.le_of_ble_eq_true rfl) ⟨by decide, by decide⟩ dX1_round_34 (fun r_19 u_19 H locs hr_19 hP hD hS => ?_)
          obtain ⟨rfl, rfl⟩ := hr_19
          refine lv_i2l hx hb dX1_round_37 rfl ?_
          exact W.lret (v := ((kfail ((0 : Int32), u.2.1, u.2.2) (1 : Int32)).1).toInt64) hx hb hr (fun t9 ht9 hW9 => ⟨⟨((kfail ((0 : Int32), u.2.1, u.2.2) (1 : Int32)).1).toInt64, (kfail ((0 : Int32), u.2.1, u.2.2) (1 : Int32)).2, rfl, (⟨by rw [kround, if_pos c_2, if_pos c_5, if_neg c_7, if_neg c_9], by rw [kround, if_pos c_2, if_pos c_5, if_neg c_7, if_neg c_9]⟩), by rw [ht9]; exact hP, va_K.moved hW9.alike hK, hD⟩, hS.F ht9⟩) hS.2.2 dX1_round_38 hlocks
def kaverage (u : mS) (n : Int32) : Int64 × mS :=
  if n < (1 : Int32) then
    (((kfail ((0 : Int32), u.2.1, u.2.2) (1 : Int32)).1).toInt64, (kfail ((0 : Int32), u.2.1, u.2.2) (1 : Int32)).2)
  else if n ≤ (8 : Int32) then
    kopt (kavgF u.2.1 n.toNatClampNeg 9 0 0) ((((kfail ((0 : Int32), u.2.1, u.2.2) (2 : Int32)).1).toInt64, (kfail ((0 : Int32), u.2.1, u.2.2) (2 : Int32)).2)) fun v =>
      if (0 : Int64) ≤ v then
        (kquotient (jX1_size v) ((10000 : Int64) * n.toInt64), ((0 : Int32), u.2.1, u.2.2))
      else (-(kquotient (jX1_size v) ((10000 : Int64) * n.toInt64)), ((0 : Int32), u.2.1, u.2.2))
  else (((kfail ((0 : Int32), u.2.1, u.2.2) (1 : Int32)).1).toInt64, (kfail ((0 : Int32), u.2.1, u.2.2) (1 : Int32)).2)
set_option maxHeartbeats 4000000 in
set_option maxRecDepth 100000 in
theorem tX1_average (l : Launch) (t : Nat) (D : va_G) (m0 m1 m2 : Nat) (cJ cI : ClassId) (u : mS) (n : Int32) : gMl l yX1_average cX1_average 6 { frames := 2, cells := 0, slots := 0, locals := 60 } t D m0 m1 m2 cJ cI u [.int n] (fun z9 u9 => z9 = (kaverage u n).1 ∧ u9 = (kaverage u n).2) := by
  refine g_openMl (by decide +kernel) (Nat.le_of_ble_eq_true rfl) ?_
  intro p e s m below meth c ls A hA S hr hlocks hE hP hK hD hl
  obtain ⟨hx, hb, hml, hown, hts⟩ := id S
  have hs : ∀ w ∈ gws, w ∈ Cond.code yX1_average cX1_average 6 (some .long) :: gws := fun w h => List.mem_cons_of_mem _ h
  have hS : va_S A s.heap s.heap [] := va_S.rf
  have hl : lv_has ls 6 [(0, .ref m0), (1, .int n)] := hl
  refine lv_aload_n hx hb dX1_average_0 rfl (lv_at hl 0 rfl) ?_
  refine lv_iconst (v := 0) hx hb dX1_average_1 (by decide) ?_
  refine va_put (ci := 1) (v := .int (0 : Int32)) (ty := .int) (C := RX1) (T := TX1) (N := 3) hx hb hts (fun w h => hs _ (inX1g w h)) tyX1 tyX1_ok nmX1 hown hK hP hD hS 0 rfl rfl 0 (by decide) (hts _ (hs _ fl_X1_17)) (fun _ h9 => h9) rfl (by decide +kernel) rfl rfl (Nat.le_of_ble_eq_true rfl) dX1_average_2 (fun H locs hP hD hS => ?_)
  have hP : va_P D vwCl (wM m0 m1 m2 cJ cI ((0 : Int32), u.2.1, u.2.2)) H := hP
  have hD : va_D A (wM m0 m1 m2 cJ cI ((0 : Int32), u.2.1, u.2.2)) := hD
  refine lv_iload_n hx hb dX1_average_5 rfl (lv_at hl 1 rfl) ?_
  refine lv_iconst (v := 1) hx hb dX1_average_6 (by decide) ?_
  refine lv_icmp_lt (tgt := 16) hx hb dX1_average_7 (by decide) (fun c_1 => ?_) (fun c_1 => ?_)
  · refine lv_aload_n hx hb dX1_average_16 rfl (lv_at hl 0 rfl) ?_
    refine lv_iconst (v := 1) hx hb dX1_average_17 (by decide) ?_
    refine g_callMi S hs (tX1_fail l t D m0 m1 m2 cJ cI ((0 : Int32), u.2.1, u.2.2) (1 : Int32)) rfl ml_X1_29 im_yX1_fail se_yX1_fail cd_yX1_fail hd_yX1_fail ⟨by decide, by decide⟩ hE hS hA hP hK hD hl.1 rfl (Nat.le_of_ble_eq_true rfl) ⟨by decide, by decide⟩ dX1_average_18 (fun r_2 u_2 H locs hr_2 hP hD hS => ?_)
    obtain ⟨rfl, rfl⟩ := hr_2
    refine lv_i2l hx hb dX1_average_21 rfl ?_
    exact W.lret (v := ((kfail ((0 : Int32), u.2.1, u.2.2) (1 : Int32)).1).toInt64) hx hb hr (fun t9 ht9 hW9 => ⟨⟨((kfail ((0 : Int32), u.2.1, u.2.2) (1 : Int32)).1).toInt64, (kfail ((0 : Int32), u.2.1, u.2.2) (1 : Int32)).2, rfl, (⟨by rw [kaverage, if_pos c_1], by rw [kaverage, if_pos c_1]⟩), by rw [ht9]; exact hP, va_K.moved hW9.alike hK, hD⟩, hS.F ht9⟩) hS.2.2 dX1_average_22 hlocks
  · refine lv_iload_n hx hb dX1_average_10 rfl (lv_at hl 1 rfl) ?_
    refine lv_bipush (v := 8) hx hb dX1_average_11 (by decide) ?_
    refine lv_icmp_le (tgt := 23) hx hb dX1_average_13 (by decide) (fun c_3 => ?_) (fun c_3 => ?_)
    · refine lv_lconst (v := 0) hx hb dX1_average_23 (by decide) ?_
      refine lv_lstore_n (lv' := [(2, .long (0 : Int64)), (0, .ref m0), (1, .int n)]) hx hb dX1_average_24 rfl hl (by decide) rfl (fun ls hl => ?_)
      refine lv_iconst (v := 0) hx hb dX1_average_25 (by decide) ?_
      refine lv_istore (lv' := [(4, .int (0 : Int32)), (2, .long (0 : Int64)), (0, .ref m0), (1, .int n)]) hx hb dX1_average_26 hl (by decide) rfl (fun ls hl => ?_)
      obtain ⟨N, hN1, hN8, hN⟩ := g_n8 c_1 c_3
      have eN : n.toNatClampNeg = N := by rw [hN, nI_clamp (by omega)]
      refine kavg_loop (u := ((0 : Int32), u.2.1, u.2.2)) S hE hS hA hP hK hN hN8 (fun hv ls hl => ?_) (fun v hv ls hl => ?_) 9 0 0 ls (by omega) (by omega) rfl hl
      · rw [← eN] at hv
        refine lv_aload_n hx hb dX1_average_55 rfl (lv_at hl 0 rfl) ?_
        refine lv_iconst (v := 2) hx hb dX1_average_56 (by decide) ?_
        refine g_callMi S hs (tX1_fail l t D m0 m1 m2 cJ cI ((0 : Int32), u.2.1, u.2.2) (2 : Int32)) rfl ml_X1_29 im_yX1_fail se_yX1_fail cd_yX1_fail hd_yX1_fail ⟨by decide, by decide⟩ hE hS hA hP hK hD hl.1 rfl (Nat.le_of_ble_eq_true rfl) ⟨by decide, by decide⟩ dX1_average_57 (fun r_4 u_4 H locs hr_4 hP hD hS => ?_)
        obtain ⟨rfl, rfl⟩ := hr_4
        refine lv_i2l hx hb dX1_average_60 rfl ?_
        exact W.lret (v := ((kfail ((0 : Int32), u.2.1, u.2.2) (2 : Int32)).1).toInt64) hx hb hr (fun t9 ht9 hW9 => ⟨⟨((kfail ((0 : Int32), u.2.1, u.2.2) (2 : Int32)).1).toInt64, (kfail ((0 : Int32), u.2.1, u.2.2) (2 : Int32)).2, rfl, (⟨by rw [kaverage, if_neg c_1, if_pos c_3, hv, kopt_none], by rw [kaverage, if_neg c_1, if_pos c_3, hv, kopt_none]⟩), by rw [ht9]; exact hP, va_K.moved hW9.alike hK, hD⟩, hS.F ht9⟩) hS.2.2 dX1_average_61 hlocks
      · rw [← eN] at hv
        have hq9 : ¬ (10000 : Int64) * n.toInt64 = 0 := by rw [hN]; exact g_n8K N (by omega) hN1
        refine lv_aload_n hx hb dX1_average_68 rfl (lv_at hl 1 rfl) ?_
        refine lv_lload_n hx hb dX1_average_69 rfl (lv_at hl 0 rfl) ?_
        refine g_callSl S hs (tX1_size l t v) ml_X1_39 st_yX1_size in_X1 cd_yX1_size hd_yX1_size ⟨by decide, by decide⟩ hE hS hA hl.1 rfl (Nat.le_of_ble_eq_true rfl) ⟨by decide, by decide⟩ dX1_average_70 (fun r_5 hr_5 => ?_)
        subst hr_5
        refine lv_ldc2 hx hb hown (hts _ (hs _ kl_X1_33)) dX1_average_73 ?_
        refine lv_iload_n hx hb dX1_average_76 rfl (lv_at hl 2 rfl) ?_
        refine lv_i2l hx hb dX1_average_77 rfl ?_
        refine lv_lmul hx hb dX1_average_78 ?_
        refine g_callPl S hs (tX1_quotient l m0 (jX1_size v) ((10000 : Int64) * n.toInt64) hq9) (va_recv hK hP (ci := 1) (q0 := 0) rfl rfl) ml_X1_51 im_yX1_quotient se_yX1_quotient in_X1 cd_yX1_quotient hd_yX1_quotient ⟨by decide, by decide⟩ hl.1 rfl (Nat.le_of_ble_eq_true rfl) ⟨by decide, by decide⟩ dX1_average_79 (fun r_6 hr_6 => ?_)
        subst hr_6
        refine lv_lstore (lv' := [(4, .long (kquotient (jX1_size v) ((10000 : Int64) * n.toInt64))), (2, .long v), (0, .ref m0), (1, .int n)]) hx hb dX1_average_82 hl (by decide) rfl (fun ls hl => ?_)
        refine lv_lload_n hx hb dX1_average_84 rfl (lv_at hl 1 rfl) ?_
        refine lv_lconst (v := 0) hx hb dX1_average_85 (by decide) ?_
        refine g_lc_ge (tgt := 96) hx hb dX1_average_86 dX1_average_87 (by decide) (fun c_7 => ?_) (fun c_7 => ?_)
        · refine lv_lload hx hb dX1_average_96 (lv_at hl 0 rfl) ?_
          exact W.lret (v := kquotient (jX1_size v) ((10000 : Int64) * n.toInt64)) hx hb hr (fun t9 ht9 hW9 => ⟨⟨kquotient (jX1_size v) ((10000 : Int64) * n.toInt64), ((0 : Int32), u.2.1, u.2.2), rfl, (⟨by rw [kaverage, if_neg c_1, if_pos c_3, hv, kopt_some, if_pos c_7], by rw [kaverage, if_neg c_1, if_pos c_3, hv, kopt_some, if_pos c_7]⟩), by rw [ht9]; exact hP, va_K.moved hW9.alike hK, hD⟩, hS.F ht9⟩) hS.2.2 dX1_average_98 hlocks
        · refine lv_lload hx hb dX1_average_90 (lv_at hl 0 rfl) ?_
          refine lv_lneg hx hb dX1_average_92 ?_
          refine lv_goto (tgt := 98) hx hb dX1_average_93 (by decide) ?_
          exact W.lret (v := -(kquotient (jX1_size v) ((10000 : Int64) * n.toInt64))) hx hb hr (fun t9 ht9 hW9 => ⟨⟨-(kquotient (jX1_size v) ((10000 : Int64) * n.toInt64)), ((0 : Int32), u.2.1, u.2.2), rfl, (⟨by rw [kaverage, if_neg c_1, if_pos c_3, hv, kopt_some, if_neg c_7], by rw [kaverage, if_neg c_1, if_pos c_3, hv, kopt_some, if_neg c_7]⟩), by rw [ht9]; exact hP, va_K.moved hW9.alike hK, hD⟩, hS.F ht9⟩) hS.2.2 dX1_average_98 hlocks
    · refine lv_aload_n hx hb dX1_average_16 rfl (lv_at hl 0 rfl) ?_
      refine lv_iconst (v := 1) hx hb dX1_average_17 (by decide) ?_
      refine g_callMi S hs (tX1_fail l t D m0 m1 m2 cJ cI ((0 : Int32), u.2.1, u.2.2) (1 : Int32)) rfl ml_X1_29 im_yX1_fail se_yX1_fail cd_yX1_fail hd_yX1_fail ⟨by decide, by decide⟩ hE hS hA hP hK hD hl.1 rfl (Nat.le_of_ble_eq_true rfl) ⟨by decide, by decide⟩ dX1_average_18 (fun r_8 u_8 H locs hr_8 hP hD hS => ?_)
      obtain ⟨rfl, rfl⟩ := hr_8
      refine lv_i2l hx hb dX1_average_21 rfl ?_
      exact W.lret (v := ((kfail ((0 : Int32), u.2.1, u.2.2) (1 : Int32)).1).toInt64) hx hb hr (fun t9 ht9 hW9 => ⟨⟨((kfail ((0 : Int32), u.2.1, u.2.2) (1 : Int32)).1).toInt64, (kfail ((0 : Int32), u.2.1, u.2.2) (1 : Int32)).2, rfl, (⟨by rw [kaverage, if_neg c_1, if_neg c_3], by rw [kaverage, if_neg c_1, if_neg c_3]⟩), by rw [ht9]; exact hP, va_K.moved hW9.alike hK, hD⟩, hS.F ht9⟩) hS.2.2 dX1_average_22 hlocks
set_option maxHeartbeats 4000000 in
set_option maxRecDepth 100000 in
/-- the reference's constructor -/
theorem tX1_init (l : Launch) (D : va_G) (m0 sz : Nat) : Met l yX1_init (Cond.code yX1_init cX1_init 1 none :: gws) ({ frames := 1, cells := 2, slots := 32, locals := 12 }) (va_Pc [.ref m0] (fun U => U.heap.size = sz ∧ va_P D vwCl [(m0, .inr (1, [.int 0, .null, .null]))] U.heap ∧ va_K D vwCl [] U ∧ va_D (fun _ => True) [(m0, .inr (1, [.int 0, .null, .null]))]))
    (va_Qv (fun _ : Unit => True) (fun _ t' => ∃ (m1 m2 : Nat) (cJ cI : ClassId), va_P D vwCl (wM m0 m1 m2 cJ cI (0, fun _ => 0, fun _ => 0)) t'.heap ∧ va_K D vwCl [(cJ, .long), (cI, .int)] t' ∧ va_D (va_A [(m0, .inr (1, [.int 0, .null, .null]))] sz) (wM m0 m1 m2 cJ cI (0, fun _ => 0, fun _ => 0))) (va_A [(m0, .inr (1, [.int 0, .null, .null]))] sz)) 2 32 (va_A [(m0, .inr (1, [.int 0, .null, .null]))] sz) := by
  refine Met.ofW (cc := cX1_init) (maxL := 1) (ret := none) (by decide) rfl ?_
  intro p e s m args below meth c s₁ B hml hv
  obtain ⟨rfl, hsz, hP, hK, hD0⟩ := hv
  have hx := B.exec
  have hb := B.bytes
  have hr := B.returns
  have hts := atoms_spec (ws := Cond.code yX1_init cX1_init 1 none :: gws) B.pre
  have hs : ∀ w ∈ gws, w ∈ Cond.code yX1_init cX1_init 1 none :: gws := fun w h => List.mem_cons_of_mem _ h
  have hown : s.vm.findClass RX1 = some m.cls := findClass_of_methodNamed B.named
  have hlocks := B.notSynchronized
  have hin : meth.name = "<init>" := (name_of_methodNamed B.named B.method).1
  subst hsz
  have hD := hD0.self (sz := s.heap.size)
  generalize hAe : va_A [(m0, .inr (1, [.int 0, .null, .null]))] s.heap.size = A at hD ⊢
  have hA : ∀ q : Nat, s.heap.size ≤ q → A q := fun q h => by rw [← hAe]; exact Or.inr h
  have hS : va_S A s.heap s.heap [] := va_S.rf
  have hl := lv_entry ([.ref m0]) (n := 1) (Nat.le_of_ble_eq_true rfl)
  rw [lg_entry_eq]
  generalize (lg_sl ([.ref m0]) ++ List.replicate (1 - (lg_sl ([.ref m0])).length) Slot.unset).toArray = ls at hl ⊢
  have hl : lv_has ls 1 [(0, .ref m0)] := hl
  refine lv_aload_n hx hb dX1_init_0 rfl (lv_at hl 0 rfl) ?_
  refine W.objInit hx hb hown (hts _ (hs _ ml_X1_1)) (hts _ (hs _ im_objectInit)) (hts _ (hs _ cd_objectInit)) rfl (by rw [hml]; exact hl.1) rfl dX1_init_1 (Nat.le_of_ble_eq_true rfl) (Nat.le_of_ble_eq_true rfl) ?_
  refine W.eq (g2 := F0 m 4 ls []) rfl ?_
  refine lv_aload_n hx hb dX1_init_4 rfl (lv_at hl 0 rfl) ?_
  refine lv_bipush (v := 8) hx hb dX1_init_5 (by decide) ?_
  refine va_newa (atype := .long) hx hb (hts _ (hs _ ac_long)) rfl hK hP hD hS hA (N' := 8) (a0 := (8, .inr (.inl (fun _ => 0)))) (fun cA => rfl) (by decide) (by decide) (by decide) (by decide) (by decide) dX1_init_7 (fun q cA H hK hP hD hS => ?_)
  refine va_putF (ci := 1) (v := .ref q) (ty := .array .long) (C := RX1) (T := TX1) (N := 3) hx hb hts (fun w h => hs _ (inX1g w h)) tyX1 tyX1_ok nmX1 hown hK hP hD hS 0 rfl rfl 1 (by decide) (hts _ (hs _ fl_X1_7)) (fun _ h9 => h9) rfl hin rfl (by decide +kernel) rfl rfl (Nat.le_of_ble_eq_true rfl) dX1_init_9 (fun H locs hP hD hS => ?_)
  refine lv_aload_n hx hb dX1_init_12 rfl (lv_at hl 0 rfl) ?_
  refine lv_bipush (v := 24) hx hb dX1_init_13 (by decide) ?_
  refine va_newa (atype := .int) hx hb (hts _ (hs _ ac_int)) rfl hK hP hD hS hA (N' := 24) (a0 := (24, .inl (fun _ => 0))) (fun cA => rfl) (by decide) (by decide) (by decide) (by decide) (by decide) dX1_init_15 (fun q2 cB H hK hP hD hS => ?_)
  refine va_putF (ci := 1) (v := .ref q2) (ty := .array .int) (C := RX1) (T := TX1) (N := 3) hx hb hts (fun w h => hs _ (inX1g w h)) tyX1 tyX1_ok nmX1 hown hK hP hD hS 0 rfl rfl 2 (by decide) (hts _ (hs _ fl_X1_13)) (fun _ h9 => h9) rfl hin rfl (by decide +kernel) rfl rfl (Nat.le_of_ble_eq_true rfl) dX1_init_17 (fun H locs hP hD hS => ?_)
  have hP : va_P D vwCl (wM m0 q q2 cA cB (0, fun _ => 0, fun _ => 0)) H := hP
  have hD : va_D A (wM m0 q q2 cA cB (0, fun _ => 0, fun _ => 0)) := hD
  exact W.vret hx hb hr (fun t ht hW => ⟨⟨(), rfl, trivial, q, q2, cA, cB, by rw [ht]; exact hP, va_K.moved hW.alike hK, hD⟩, hS.F ht⟩) hS.2.2 dX1_init_20
