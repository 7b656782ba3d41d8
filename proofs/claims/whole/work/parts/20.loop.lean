/-! THE CLAIM OUT OF ONE WALK OF THE LAW'S BODY. Your part is whole_start (and what it stands on); all else here is the same for every law, but numbers. -/
def R_law : String := "TenThousandthDeskLaw"
def lw_P (b : Addr) (xs : List Int32) (args : Array Value) (s : State) : Prop := args = #[.ref b] ∧ s.IntsAt b xs ∧ xs.length ≤ 2560 ∧ (Jvm.Cond.and given_1 narrow_1).before args s = true
def lw_Q (_ : Array Value) (s : State) (o : Outcome) (t : State) : Prop := o = .returned (some (.int 1)) ∧ Framed s o t [] 1040 8297
def lw_Z (below : List Frame) (a : Array Value) (s : State) : State → Prop := fun t => ∃ o, t.status = .running ∧ Ended t below o ∧ lw_Q a s o t
/-- the law's own end, with 1 on the stack, nothing written that was there before, its room as the claim has it -/
theorem lw_ret {p : Program} {l : Launch} {e : Env} {s : State} {m : MethodId} {below : List Frame} {meth : Method} {c : Code} {b : Nat} (hx : p.tables.exec = Jvm.exec) (hb : c.code = code) (hr : meth.sig.returnType = ret) (hlocks : meth.locks = false) {pc : Nat} {H : Heap} {ls : Array Slot} (hdg : decode code pc = .ok (.ireturn, 1)) : W p l e room_1 s m #[Value.ref b] below meth c H [] 1040 8297 (lw_Z below #[Value.ref b] s) (F0 m pc ls [.int 1]) := by
  intro T hT X
  obtain ⟨fs, hret, hrun, hended, hW, hframe⟩ := X.leave (v := some (.int 1)) (hlocks := hlocks) (fun h => by rw [hr] at h; cases h)
  have hmeth' : T.vm.method? m = some meth := X.method'
  refine ⟨T.setFrames fs, ?_, .returned (some (.int 1)), hrun, hended, rfl, ⟨_, rfl⟩, hW, hframe⟩
  jvm_step X.here [X.here.top, hx, hb, hdg, hmeth', hr, ret, narrow_b1]
  (try refine ⟨rfl, ?_⟩); (try refine ⟨rfl, ?_⟩)
  first | (intro acts; rw [hret _ acts rfl rfl rfl]) | rw [hret _ _ rfl rfl rfl]
  exact Steps.refl _
/-- what holds at the law's entry: the machine, the code, the tables' words (any of lw_tbl by 'hts w (by decide +kernel)'), the script of L ints xs at the cell b, what the Statement gives of the start (any of its parts by flat_of_before) -/
def lw_At (p : Program) (s : State) (m : MethodId) (meth : Method) (c : Code) (b L : Nat) (xs : Nat → Int32) : Prop :=
  p.tables.exec = Jvm.exec ∧ c.code = code ∧ meth.sig.returnType = ret ∧ c.maxLocals = 8 ∧ s.vm.findClass R_law = some m.cls ∧ (∀ w ∈ lw_tbl, w.before #[Value.ref b] s = true) ∧ va_X b L xs s s.heap ∧ b < s.heap.size ∧ meth.locks = false ∧ (Jvm.Cond.and given_1 narrow_1).before #[Value.ref b] s = true

/-! ===== the law, from its entry ===== -/
theorem gBd_0 : gBd 0 := ⟨by decide, by decide⟩
theorem g_exit {a L : Nat} (ha : a ≤ 2560) (hL : L ≤ 2560) : nI L - (5 : Int32) < nI a ↔ L < a + 5 := by
  rw [Int32.lt_iff_toInt_lt, nI_toInt (by omega), show (5 : Int32) = nI 5 from by decide, pk_sub_toInt (by omega) (by omega)]
  omega
set_option maxHeartbeats 4000000 in
set_option maxRecDepth 100000 in
theorem law_loop {p : Program} {l : Launch} {e : Env} {s : State} {m : MethodId} {below : List Frame} {meth : Method} {c : Code} {t b L : Nat} {xs : Nat → Int32} {D : va_G} {h0 h1 o0 m0 m1 m2 : Nat} {cJ cO cK cI : ClassId} (hnt : l.stackTraces = false) (hL : L ≤ 2560) (C0 : lw_At p s m meth c b L xs) (hE : gE t (gN s.heap.size) s s.heap) (hK : va_K D vwCl [(cJ, .long), (cO, .long), (cK, .long), (cI, .int)] s) :
    ∀ (n k : Nat) (f g : Nat → Int64) (u : mS) (H : Heap) (locs : List Loc) (ls : Array Slot), 5 * k ≤ L → L + 5 ≤ 5 * k + 5 * n → gBs f → u.2.1 = f → va_P D vwCl (wA h0 h1 o0 m0 m1 m2 cJ cO cK cI f g u) H → va_D (gN s.heap.size) (wA h0 h1 o0 m0 m1 m2 cJ cO cK cI f g u) → va_S (gN s.heap.size) s.heap H locs → lv_has ls 8 [(0, .ref b), (1, .ref h0), (2, .ref m0), (3, .ref o0), (4, .int (nI (5 * k)))] →
      W p l e room_1 s m #[Value.ref b] below meth c H locs (6 + k) (45 + 6 * k) (lw_Z below #[Value.ref b] s) (F0 m 23 ls []) := by
  obtain ⟨hx, hb, hr, hml, hown, hts, hX, hbl, hlocks, hgv⟩ := C0
  have S : CallFix p m c code 8 s #[Value.ref b] lw_tbl RL := ⟨hx, hb, hml, hown, hts⟩
  have hA : ∀ q : Nat, s.heap.size ≤ q → gN s.heap.size q := fun _ h => h
  have hbA : ¬ gN s.heap.size b := Nat.not_le.mpr hbl
  intro n
  induction n with
  | zero => intro k f g u H locs ls h1 h2; omega
  | succ n ih =>
    intro k f g u H locs ls hk hn hB hu hP hD hS hl
    refine lv_iload hx hb dL_law_23 (lv_at hl 4 rfl) ?_
    refine lv_aload_n hx hb dL_law_25 rfl (lv_at hl 0 rfl) ?_
    refine va_slen hx hb hX hbl hbA hS dL_law_26 ?_
    refine lv_iconst (v := 5) hx hb dL_law_27 (by decide) ?_
    refine lv_isub hx hb dL_law_28 ?_
    refine lv_icmp_gt (tgt := 612) hx hb dL_law_29 (by decide) (fun c_1 => ?_) (fun c_1 => ?_)
    · refine lv_iconst (v := 1) hx hb dL_law_612 (by decide) ?_
      refine va_forget (fun q hq => hS.2.2 q hq) ?_
      refine W.widen (k := 1040) (n := 8297) (by omega) (by omega) ?_
      exact lw_ret hx hb hr hlocks dL_law_613
    · have hlt : 5 * k + 5 ≤ L := by
        rcases Nat.lt_or_ge L (5 * k + 5) with q | q
        · exact absurd ((g_exit (by omega) hL).mpr q) c_1
        · exact q
      have next : ∀ (f' g' : Nat → Int64) (u' : mS) (H : Heap) (locs : List Loc) (ls : Array Slot), gBs f' → u'.2.1 = f' → va_P D vwCl (wA h0 h1 o0 m0 m1 m2 cJ cO cK cI f' g' u') H → va_D (gN s.heap.size) (wA h0 h1 o0 m0 m1 m2 cJ cO cK cI f' g' u') → va_S (gN s.heap.size) s.heap H locs → lv_has ls 8 [(0, .ref b), (1, .ref h0), (2, .ref m0), (3, .ref o0), (4, .int (nI (5 * k)))] → W p l e room_1 s m #[Value.ref b] below meth c H locs (6 + k + 1) (45 + 6 * k + 6) (lw_Z below #[Value.ref b] s) (F0 m 606 ls []) := by
        intro f' g' u' H locs ls hB hu hP hD hS hl
        refine lv_iinc (v := nI (5 * (k + 1))) (lv' := [(4, .int (nI (5 * (k + 1)))), (0, .ref b), (1, .ref h0), (2, .ref m0), (3, .ref o0)]) hx hb dL_law_606 hl (k := 4) rfl (by rw [show Int32.ofInt 5 = nI 5 from by decide, nI_add, Nat.mul_add]) (by decide) rfl (fun ls hl => ?_)
        refine lv_goto (tgt := 23) hx hb dL_law_609 (by decide) ?_
        refine W.widen (k := 6 + (k + 1)) (n := 45 + 6 * (k + 1)) (by omega) (by omega) ?_
        exact ih (k + 1) f' g' u' H locs ls (by omega) (by omega) hB hu hP hD hS (lv_sub hl [1, 2, 3, 4, 0] rfl)
      have hc1 : 6 + k + 1 ≤ 1040 := by omega
      have hs1 : 45 + 6 * k + 6 ≤ 8297 := by omega
      refine lv_aload_n hx hb dL_law_32 rfl (lv_at hl 0 rfl) ?_
      refine lv_iload hx hb dL_law_33 (lv_at hl 4 rfl) ?_
      refine va_sld hx hb hX hbl hbA hS (vp_in_nI (by omega) (by omega)) dL_law_35 ?_
      refine lv_bipush (v := 7) hx hb dL_law_36 (by decide) ?_
      refine lv_iand hx hb dL_law_38 ?_
      obtain ⟨j, hj, ej⟩ := pk_andE (xs (nI (5 * k)).toNatClampNeg) (m := 7) 3 (by decide)
      rw [ej]
      have hj8 : j = 0 ∨ j = 1 ∨ j = 2 ∨ j = 3 ∨ j = 4 ∨ j = 5 ∨ j = 6 ∨ j = 7 := by omega
      rcases hj8 with rfl | rfl | rfl | rfl | rfl | rfl | rfl | rfl
      · refine lv_tableIn (off := 41) (tgt := 80) hx hb dL_law_39 (by decide) (by decide) (by rfl) (by decide) ?_
        exact lc_set hnt S hE hS hA hP hK hD hX hbl hbA hB hu hlt hL hc1 hs1 hl next
      · refine lv_tableIn (off := 140) (tgt := 179) hx hb dL_law_39 (by decide) (by decide) (by rfl) (by decide) ?_
        exact lc_get hnt S hE hS hA hP hK hD hX hbl hbA hB hu hlt hL hc1 hs1 hl next
      · refine lv_tableIn (off := 195) (tgt := 234) hx hb dL_law_39 (by decide) (by decide) (by rfl) (by decide) ?_
        exact lc_reckon hnt S hE hS hA hP hK hD hX hbl hbA hB hu hlt hL hc1 hs1 hl next
      · refine lv_tableIn (off := 286) (tgt := 325) hx hb dL_law_39 (by decide) (by decide) (by rfl) (by decide) ?_
        exact lc_turn hnt S hE hS hA hP hK hD hX hbl hbA hB hu hlt hL hc1 hs1 hl next
      · refine lv_tableIn (off := 365) (tgt := 404) hx hb dL_law_39 (by decide) (by decide) (by rfl) (by decide) ?_
        exact lc_round hnt S hE hS hA hP hK hD hX hbl hbA hB hu hlt hL hc1 hs1 hl next
      · refine lv_tableIn (off := 444) (tgt := 483) hx hb dL_law_39 (by decide) (by decide) (by rfl) (by decide) ?_
        exact lc_print hnt S hE hS hA hP hK hD hX hbl hbA hB hu hlt hL hc1 hs1 hl next
      · refine lv_tableIn (off := 512) (tgt := 551) hx hb dL_law_39 (by decide) (by decide) (by rfl) (by decide) ?_
        exact lc_average hnt S hE hS hA hP hK hD hX hbl hbA hB hu hlt hL hc1 hs1 hl next
      · refine lv_tableOut (tgt := 606) hx hb dL_law_39 (Or.inr (by decide)) (by decide) ?_
        refine W.widen (k := 6 + k + 1) (n := 45 + 6 * k + 6) (by omega) (by omega) ?_
        exact next f g u H locs ls hB hu hP hD hS hl
def gTm : Term := .static "TenThousandthDesk" "POWERS_OF_TEN" "[J"
set_option maxRecDepth 20000 in
theorem gNs_in : ∀ w ∈ gNs, w ∈ lw_tbl := by decide +kernel
set_option maxRecDepth 20000 in
theorem ground {s : State} {b : Nat} (hts : ∀ w ∈ lw_tbl, w.before #[Value.ref b] s = true) (hgv : (Jvm.Cond.and given_1 narrow_1).before #[Value.ref b] s = true) : ∃ t : Nat, gE t (gN s.heap.size) s s.heap := by
  have hs := flat_of_before _ hgv
  have hA : ∀ a : Nat, a < s.heap.size → ¬ gN s.heap.size a := fun a h => Nat.not_le.mpr h
  have hel : ∀ j : Nat, j < 14 → (Term.elem gTm (.int (Int32.ofNat j))).eval #[Value.ref b] s none [] s = some (.long (gP j)) := by
    intro j hj
    rcases (show j = 0 ∨ j = 1 ∨ j = 2 ∨ j = 3 ∨ j = 4 ∨ j = 5 ∨ j = 6 ∨ j = 7 ∨ j = 8 ∨ j = 9 ∨ j = 10 ∨ j = 11 ∨ j = 12 ∨ j = 13 by omega) with rfl | rfl | rfl | rfl | rfl | rfl | rfl | rfl | rfl | rfl | rfl | rfl | rfl | rfl
    · exact va_eqtl (hs (.eq (.elem gTm (.int (Int32.ofNat 0))) (.long (gP 0))) (by decide +kernel))
    · exact va_eqtl (hs (.eq (.elem gTm (.int (Int32.ofNat 1))) (.long (gP 1))) (by decide +kernel))
    · exact va_eqtl (hs (.eq (.elem gTm (.int (Int32.ofNat 2))) (.long (gP 2))) (by decide +kernel))
    · exact va_eqtl (hs (.eq (.elem gTm (.int (Int32.ofNat 3))) (.long (gP 3))) (by decide +kernel))
    · exact va_eqtl (hs (.eq (.elem gTm (.int (Int32.ofNat 4))) (.long (gP 4))) (by decide +kernel))
    · exact va_eqtl (hs (.eq (.elem gTm (.int (Int32.ofNat 5))) (.long (gP 5))) (by decide +kernel))
    · exact va_eqtl (hs (.eq (.elem gTm (.int (Int32.ofNat 6))) (.long (gP 6))) (by decide +kernel))
    · exact va_eqtl (hs (.eq (.elem gTm (.int (Int32.ofNat 7))) (.long (gP 7))) (by decide +kernel))
    · exact va_eqtl (hs (.eq (.elem gTm (.int (Int32.ofNat 8))) (.long (gP 8))) (by decide +kernel))
    · exact va_eqtl (hs (.eq (.elem gTm (.int (Int32.ofNat 9))) (.long (gP 9))) (by decide +kernel))
    · exact va_eqtl (hs (.eq (.elem gTm (.int (Int32.ofNat 10))) (.long (gP 10))) (by decide +kernel))
    · exact va_eqtl (hs (.eq (.elem gTm (.int (Int32.ofNat 11))) (.long (gP 11))) (by decide +kernel))
    · exact va_eqtl (hs (.eq (.elem gTm (.int (Int32.ofNat 12))) (.long (gP 12))) (by decide +kernel))
    · exact va_eqtl (hs (.eq (.elem gTm (.int (Int32.ofNat 13))) (.long (gP 13))) (by decide +kernel))
  obtain ⟨t, ht, hT⟩ := va_Tof (tm := gTm) (ty := .long) (N := 14) (f := fun j => .long (gP j)) (A := gN s.heap.size) (by decide) (hs (.arrayOf gTm .long) (by decide +kernel)) (va_eqt (hs (.eq (.length gTm) (.int (Int32.ofNat 14))) (by decide +kernel))) hel hA
  refine ⟨t, ?_, ⟨?_, ?_, ?_⟩, ?_, ?_, ?_, hT⟩
  · intro w hw
    exact va_Nw.of (gNs_on w hw) (hts w (gNs_in w hw))
  · exact va_Nc.of (hs (.not (.castable gUOE gIAE)) (by decide +kernel))
  · exact va_Nc.of (hs (.not (.castable gAE gIAE)) (by decide +kernel))
  · exact va_Nc.of (hs (.not (.castable gAE gUOE)) (by decide +kernel))
  · exact vx_Zqof (hts (.laysStatic Bundle.tN "UNASSIGNED_STACK" Bundle.steD) (by decide +kernel)) (hts (.initialized Bundle.tN) (by decide +kernel)) (hs (.isRef (.static Bundle.tN "UNASSIGNED_STACK" Bundle.steD)) (by decide +kernel)) hA
  · exact vx_Zqof (hts (.laysStatic Bundle.tN "SUPPRESSED_SENTINEL" Bundle.listD) (by decide +kernel)) (hts (.initialized Bundle.tN) (by decide +kernel)) (hs (.isRef (.static Bundle.tN "SUPPRESSED_SENTINEL" Bundle.listD)) (by decide +kernel)) hA
  · exact va_Zref (hts (.laysStatic RX0 "POWERS_OF_TEN" "[J") (by decide +kernel)) (hts (.initialized RX0) (by decide +kernel)) ht hA
set_option maxHeartbeats 4000000 in
set_option maxRecDepth 100000 in
/-- THE LAW, from its entry -/
theorem whole_start {p : Program} {e : Env} {s : State} {m : MethodId} {below : List Frame} {meth : Method} {c : Code} (l : Launch) (hnt : l.stackTraces = false) {b L : Nat} {xs : Nat → Int32} (hL : L ≤ 2560) (C0 : lw_At p s m meth c b L xs) : W p l e room_1 s m #[Value.ref b] below meth c s.heap [] 0 0 (lw_Z below #[Value.ref b] s) (entryFrame m ([Value.ref b] : List Value).toArray 8) := by
  obtain ⟨hx, hb, hr, hml, hown, hts, hX, hbl, hlocks, hgv⟩ := id C0
  obtain ⟨t, hE⟩ := ground hts hgv
  have hs : ∀ w ∈ gws, w ∈ lw_tbl := fun w h => gws_tbl h
  have hA : ∀ q : Nat, s.heap.size ≤ q → gN s.heap.size q := fun _ h => h
  obtain ⟨c0, iS0, hKn0⟩ := u_known (C := RX0) (T := TX0) (N := 1) (n := 1) hts (fun w h => hs _ (inX0g w h)) (hts _ (hs _ nt_X0))
  obtain ⟨c1, iS1, hKn1⟩ := u_known (C := RX1) (T := TX1) (N := 3) (n := 3) hts (fun w h => hs _ (inX1g w h)) (hts _ (hs _ nt_X1))
  obtain ⟨dC, dI, hKc⟩ : ∃ (dC : Nat → ClassId) (dI : Nat → Nat → Nat), ∀ (k : Nat) (q : vw_C), vwCl[k]? = some q → u_Kn s q.1 q.2.1 q.2.2 (dC k) (dI k) := by
    refine ⟨fun k => if k = 0 then c0 else c1, fun k => if k = 0 then iS0 else iS1, ?_⟩
    intro k q hq
    match k, hq with
    | 0, hq => cases hq; exact hKn0
    | 1, hq => cases hq; exact hKn1
    | k + 2, hq => simp [vwCl] at hq
  have hS : va_S (gN s.heap.size) s.heap s.heap [] := va_S.rf
  have hK : va_K (dC, dI) vwCl [] s := ⟨hKc, fun k q h => by simp at h⟩
  have hP : va_P (dC, dI) vwCl [] s.heap := fun k q h => by simp at h
  have hD : va_D (gN s.heap.size) [] := ⟨fun i j p q h => by simp at h, fun k q h => by simp at h⟩
  have hl := lv_entry ([.ref b]) (n := 8) (Nat.le_of_ble_eq_true rfl)
  rw [lg_entry_eq]
  generalize (lg_sl ([.ref b]) ++ List.replicate (8 - (lg_sl ([.ref b])).length) Slot.unset).toArray = ls at hl ⊢
  have hl : lv_has ls 8 [(0, .ref b)] := hl
  -- the desk
  refine va_new (ci := 0) (fs := [.null]) (C := RX0) (T := TX0) (N := 1) hx hb hts (fun w h => hs _ (inX0g w h)) tyX0 tyX0_ok hown (hts _ (hs _ cl_L_8)) (hts _ (hs _ nt_X0)) (hts _ (hs _ in_X0)) hK hP hD hS hA rfl (fun j hj => by rcases (show j = 0 by omega) with rfl; rfl) (Nat.le_of_ble_eq_true rfl) (Nat.le_of_ble_eq_true rfl) dL_law_0 (fun h0 H hP hD hS => ?_)
  have hP : va_P (dC, dI) vwCl [(h0, .inr (0, [.null]))] H := hP
  have hD : va_D (gN s.heap.size) [(h0, .inr (0, [.null]))] := hD
  refine W.widen (k := 1) (n := 1) (by omega) (by omega) ?_
  refine lv_dup hx hb dL_law_3 rfl ?_
  have hFc := va_free (wc := [(h0, .inr (0, [.null]))]) hD hS hA [0] rfl
  refine va_callv (va_runI (As := []) (rest := [.ref h0]) ⟨hx, hb, hml, hown, hts⟩ (tX0_init l (dC, dI) h0 H.size) (cwI 0 hts (gw_1 hs cd_yX0_init) rfl rfl rfl (hts _ (hs _ in_X0)) (hts _ (hs _ ml_L_41)) (hts _ (hs _ im_yX0_init)) rfl (by decide +kernel) ⟨Nat.le_of_ble_eq_true rfl, Nat.le_of_ble_eq_true rfl⟩) ⟨fun a U g mk q => by obtain ⟨q0, q1, qP, qK, qD⟩ := q; exact ⟨q0, q1, qP, va_K.moved (u := U) (U := U.calling g mk a) (Vm.Alike.refl U.vm) qK, qD⟩, fun U hU hW => ⟨rfl, by rw [hU], by rw [hU]; exact hP, va_K.moved hW.alike hK, hD.weaken (fun _ _ _ _ => trivial)⟩⟩ rfl rfl hl.1 rfl (lv_room (Nat.le_of_ble_eq_true rfl)) dL_law_4 ⟨Nat.le_of_ble_eq_true rfl, Nat.le_of_ble_eq_true rfl⟩) hS (fun q _ h => hFc q h) hFc (fun _ t1 H1 locs ht hvm _ hB hz1 hk1 hS => ?_)
  obtain ⟨h1, cJ, hP1, hK1, hD1⟩ := hB
  rw [ht] at hP1
  have hK := va_K.moved hvm.symm hK1
  have hP : va_P (dC, dI) vwCl (wX h0 h1 cJ (fun _ => 0)) H1 := hP1
  have hD : va_D (gN s.heap.size) (wX h0 h1 cJ (fun _ => 0)) := hD1.weaken (fun _ q _ h => hFc q.1 h)
  clear hFc hk1 hz1 hP1 hD1 hK1
  refine W.widen (k := 2) (n := 9) (by omega) (by omega) ?_
  refine lv_astore_n (lv' := [(1, .ref h0), (0, .ref b)]) hx hb dL_law_7 rfl hl (by decide) rfl (fun ls hl => ?_)
  -- the reference
  refine va_new (ci := 1) (fs := [.int 0, .null, .null]) (C := RX1) (T := TX1) (N := 3) hx hb hts (fun w h => hs _ (inX1g w h)) tyX1 tyX1_ok hown (hts _ (hs _ cl_L_42)) (hts _ (hs _ nt_X1)) (hts _ (hs _ in_X1)) hK hP hD hS hA rfl (fun j hj => by rcases (show j = 0 ∨ j = 1 ∨ j = 2 by omega) with rfl | rfl | rfl <;> rfl) (Nat.le_of_ble_eq_true rfl) (Nat.le_of_ble_eq_true rfl) dL_law_8 (fun m0 H hP hD hS => ?_)
  have hP : va_P (dC, dI) vwCl [(h0, .inr (0, [.ref h1])), (h1, .inl (cJ, 8, .inr (.inl (fun _ => 0)))), (m0, .inr (1, [.int 0, .null, .null]))] H := hP
  have hD : va_D (gN s.heap.size) [(h0, .inr (0, [.ref h1])), (h1, .inl (cJ, 8, .inr (.inl (fun _ => 0)))), (m0, .inr (1, [.int 0, .null, .null]))] := hD
  refine W.widen (k := 3) (n := 12) (by omega) (by omega) ?_
  refine lv_dup hx hb dL_law_11 rfl ?_
  have hPc := hP.sub (ws' := [(m0, .inr (1, [.int 0, .null, .null]))]) [2] rfl
  have hDc := hD.sub (ws' := [(m0, .inr (1, [.int 0, .null, .null]))]) [2] (by decide) rfl
  have hKc2 := hK.sub (tys' := []) [] rfl
  have hFc := va_free (wc := [(m0, .inr (1, [.int 0, .null, .null]))]) hD hS hA [2] rfl
  refine va_callv (va_runI (As := []) (rest := [.ref m0]) ⟨hx, hb, hml, hown, hts⟩ (tX1_init l (dC, dI) m0 H.size) (cwI 0 hts (gw_1 hs cd_yX1_init) rfl rfl rfl (hts _ (hs _ in_X1)) (hts _ (hs _ ml_L_44)) (hts _ (hs _ im_yX1_init)) rfl (by decide +kernel) ⟨Nat.le_of_ble_eq_true rfl, Nat.le_of_ble_eq_true rfl⟩) ⟨fun a U g mk q => by obtain ⟨q0, q1, qP, qK, qD⟩ := q; exact ⟨q0, q1, qP, va_K.moved (u := U) (U := U.calling g mk a) (Vm.Alike.refl U.vm) qK, qD⟩, fun U hU hW => ⟨rfl, by rw [hU], by rw [hU]; exact hPc, va_K.moved hW.alike hKc2, hDc.weaken (fun _ _ _ _ => trivial)⟩⟩ rfl rfl hl.1 rfl (lv_room (Nat.le_of_ble_eq_true rfl)) dL_law_12 ⟨Nat.le_of_ble_eq_true rfl, Nat.le_of_ble_eq_true rfl⟩) hS (fun q _ h => hFc q h) hFc (fun _ t2 H2 locs ht hvm _ hB hz1 hk1 hS => ?_)
  obtain ⟨m1, m2, cK, cI, hP1, hK1, hD1⟩ := hB
  rw [ht] at hP1
  have hK1 := va_K.moved hvm.symm hK1
  obtain ⟨hP, hD⟩ := va_join (wr := wX h0 h1 cJ (fun _ => 0)) (w1 := wM m0 m1 m2 cK cI (0, fun _ => 0, fun _ => 0)) hP hD [2] [0, 1] rfl rfl (by decide) (by decide) hk1 hFc hP1 hD1
  have hK := hK.app hK1
  clear hFc hk1 hz1 hP1 hD1 hK1 hPc hDc hKc2
  refine W.widen (k := 5) (n := 44) (by omega) (by omega) ?_
  refine lv_astore_n (lv' := [(2, .ref m0), (1, .ref h0), (0, .ref b)]) hx hb dL_law_15 rfl hl (by decide) rfl (fun ls hl => ?_)
  -- the row of one long
  refine lv_iconst (v := 1) hx hb dL_law_16 (by decide) ?_
  refine va_newa (atype := .long) hx hb (hts _ (hs _ ac_long)) rfl hK hP hD hS hA (N' := 1) (a0 := (1, .inr (.inl (fun _ => 0)))) (fun cA => rfl) (by decide) (by decide) (by decide) (Nat.le_of_ble_eq_true rfl) (Nat.le_of_ble_eq_true rfl) dL_law_17 (fun o0 cO H hK hP hD hS => ?_)
  have hP : va_P (dC, dI) vwCl (wA h0 h1 o0 m0 m1 m2 cJ cO cK cI (fun _ => 0) (fun _ => 0) (0, fun _ => 0, fun _ => 0)) H := hP.sub [0, 1, 5, 2, 3, 4] rfl
  have hD : va_D (gN s.heap.size) (wA h0 h1 o0 m0 m1 m2 cJ cO cK cI (fun _ => 0) (fun _ => 0) (0, fun _ => 0, fun _ => 0)) := hD.sub [0, 1, 5, 2, 3, 4] (by decide) rfl
  have hK : va_K (dC, dI) vwCl [(cJ, .long), (cO, .long), (cK, .long), (cI, .int)] s := hK.sub [0, 3, 1, 2] rfl
  refine lv_astore_n (lv' := [(3, .ref o0), (2, .ref m0), (1, .ref h0), (0, .ref b)]) hx hb dL_law_19 rfl hl (by decide) rfl (fun ls hl => ?_)
  refine lv_iconst (v := 0) hx hb dL_law_20 (by decide) ?_
  refine lv_istore (lv' := [(4, .int 0), (3, .ref o0), (2, .ref m0), (1, .ref h0), (0, .ref b)]) hx hb dL_law_21 hl (by decide) rfl (fun ls hl => ?_)
  refine W.widen (k := 6 + 0) (n := 45 + 6 * 0) (by omega) (by omega) ?_
  exact law_loop hnt hL C0 hE hK (L + 1) 0 (fun _ => 0) (fun _ => 0) (0, fun _ => 0, fun _ => 0) H _ ls (by omega) (by omega) (fun _ _ => gBd_0) rfl hP hD hS (lv_sub hl [4, 3, 2, 1, 0] rfl)
