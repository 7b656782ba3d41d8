/-! ===== the law's body: one call a turn ===== -/
/-- all that the law holds: the desk, its own row, the reference -/
abbrev wA (h0 h1 o0 m0 m1 m2 : Nat) (cJ cO cK cI : ClassId) (f g : Nat → Int64) (u : mS) : va_W := [(h0, .inr (0, [.ref h1])), (h1, .inl (cJ, 8, .inr (.inl f))), (o0, .inl (cO, 1, .inr (.inl g))), (m0, .inr (1, [.int u.1, .ref m1, .ref m2])), (m1, .inl (cK, 8, .inr (.inl u.2.1))), (m2, .inl (cI, 24, .inl u.2.2))]
theorem six {a k L : Nat} {kk : Int32} (e : kk = nI k) (h : a + k < L) (hL : L ≤ 2560) : vp_in (nI a + kk) L := by
  rw [e, nI_add]
  exact vp_in_nI h (by omega)
theorem gRes_k {res : String ⊕ (Int64 × (Nat → Int64))} {code : String → Int32} {f : Nat → Int64} {k : Int32} {q : (Nat → Int64) × (Nat → Int64)} {z : Int64} {u : mS} (h1 : gRes res code f k q) (h2 : gAg res code f z u) (hB : gBs f) : u.1 = k ∧ (k = 0 → q.2 0 = z) ∧ u.2.1 = q.1 ∧ gBs q.1 := by
  rcases h1 with ⟨v, f1, e1, rfl, e2, e3⟩ | ⟨E, e1, e2, e3⟩
  · rcases h2 with ⟨v', f1', g1, g2, g3, g4, g5⟩ | ⟨E', g1, -⟩
    · rw [e1] at g1
      cases g1
      exact ⟨g2, fun _ => by rw [e3, g3], by rw [g4, e2], by rw [e2]; exact g5⟩
    · rw [e1] at g1; cases g1
  · rcases h2 with ⟨v', f1', g1, -⟩ | ⟨E', g1, g2, g3, g4⟩
    · rw [e1] at g1; cases g1
    · rw [e1] at g1
      cases g1
      exact ⟨by rw [g2, e2], fun hk => absurd (by rw [← e2]; exact hk) g3, by rw [g4, e3], by rw [e3]; exact hB⟩
section GW
variable {p : Program} {l : Launch} {e : Env} {R : Room} {s : State} {m : MethodId} {args : Array Value} {below : List Frame} {meth : Method} {c : Code} {H : Heap} {locs : List Loc} {cells slots : Nat} {Q : State → Prop}
variable {cc : ByteArray} {pc : Nat} {ls : Array Slot} {rest st0 : List Value} {A0 : Nat → Prop} {Ts : List Cond} {own : String} {nL : Nat}
variable {y : MethodName} {b : ByteArray} {n index t : Nat} {rm : Room} {As : List Value} {D : va_G} {h0 h1 o0 m0 m1 m2 : Nat} {cJ cO cK cI : ClassId} {f g : Nat → Int64} {u : mS}
theorem g_callL {hh : List (Nat × Nat × Nat × Nat)} {res : String ⊕ (Int64 × (Nat → Int64))} {code : String → Int32} (S : CallFix p m c cc nL s args Ts own) (hs : ∀ w ∈ gws, w ∈ Ts) (hM : gL l y b n hh rm t D h0 h1 o0 cJ cO f g As res code)
    (k1 : Cond.methodLink own index y ∈ gws) (k2 : Cond.static y ∈ gws) (k3 : Cond.initialized y.cls ∈ gws) (k4 : Cond.codeWith y b n (some .int) hh ∈ gws)
    (hd : y.cls ≠ "java/lang/invoke/MethodHandle" ∧ y.cls ≠ "java/lang/invoke/VarHandle" ∧ (parseMethodDescriptor y.desc).map (fun d => d.parameters.length) = some As.length)
    (hR : rm.frames + 1 ≤ R.frames ∧ 8 + (n + 11) + rm.locals ≤ R.locals) (hE : gE t A0 s s.heap) (hS : va_S A0 s.heap H locs) (hA : ∀ q, s.heap.size ≤ q → A0 q) (hP : va_P D vwCl (wA h0 h1 o0 m0 m1 m2 cJ cO cK cI f g u) H) (hK : va_K D vwCl [(cJ, .long), (cO, .long), (cK, .long), (cI, .int)] s) (hD : va_D A0 (wA h0 h1 o0 m0 m1 m2 cJ cO cK cI f g u)) (hsize : ls.size = nL)
    (hstack : st0 = As.reverse ++ rest) (hW : (rest.map fun v => v.category).sum ≤ 8) (hf : cells + rm.cells ≤ R.cells ∧ slots + rm.slots ≤ R.slots) (hdg : decode cc pc = .ok (.invokestatic index, 3))
    (kk : ∀ (k : Int32) (f' g' : Nat → Int64) (H1 : Heap) (locs1 : List Loc), gRes res code f k (f', g') → va_P D vwCl (wA h0 h1 o0 m0 m1 m2 cJ cO cK cI f' g' u) H1 → va_D A0 (wA h0 h1 o0 m0 m1 m2 cJ cO cK cI f' g' u) → va_S A0 s.heap H1 locs1 → W p l e R s m args below meth c H1 locs1 (cells + rm.cells) (slots + rm.slots) Q (F0 m (pc + 3) ls (.int k :: rest))) :
    W p l e R s m args below meth c H locs cells slots Q (F0 m pc ls st0) := by
  have hPc := hP.sub (ws' := wL h0 h1 o0 cJ cO f g) [0, 1, 2] rfl
  have hDc := hD.sub (ws' := wL h0 h1 o0 cJ cO f g) [0, 1, 2] (by decide) rfl
  have hKc := hK.sub (tys' := [(cJ, .long), (cO, .long)]) [0, 1] rfl
  have hFc := va_free (wc := wL h0 h1 o0 cJ cO f g) hD hS hA [0, 1, 2] rfl
  have hpre : PreS s H (gLPre t D h0 h1 o0 cJ cO f g H.size As) As := ⟨gLPre_blind t D h0 h1 o0 cJ cO f g H.size As, fun U hU hW => ⟨rfl, by rw [hU], by rw [hU]; exact ((hE.kept hS.2.1).narrow hFc).warm hW, by rw [hU]; exact hPc, va_K.moved hW.alike hKc, hDc.weaken (fun _ _ _ _ => trivial)⟩⟩
  refine va_calli (vx_runSW (As := As) (rest := rest) (g := F0 m pc ls st0) S (hM H.size) (vx_cwSW As.length S.2.2.2.2 (gw_S hs k1 k2 k3 k4) rfl rfl rfl hd hR) hpre rfl rfl hsize hstack (lv_room hW) hdg hf) hS (fun q _ h => hFc q h) hFc
    (fun k q t' H1 locs1 ht hvm hp hB hz hk hS1 => ?_)
  obtain ⟨f', g'⟩ := q
  obtain ⟨hP1, hK1, hD1⟩ := hB
  rw [ht] at hP1
  obtain ⟨hP2, hD2⟩ := va_join (wr := wM m0 m1 m2 cK cI u) (w1 := wL h0 h1 o0 cJ cO f' g') hP hD [0, 1, 2] [3, 4, 5] rfl rfl (by decide) (by decide) hk hFc hP1 hD1
  exact kk k f' g' H1 locs1 hp (hP2.sub [3, 4, 5, 0, 1, 2] rfl) (hD2.sub [3, 4, 5, 0, 1, 2] (by decide) rfl) hS1
theorem g_callAl {post : Int64 → mS → Prop} (S : CallFix p m c cc nL s args Ts own) (hs : ∀ w ∈ gws, w ∈ Ts) (hM : gMl l y b n rm t D m0 m1 m2 cK cI u As post) (hyc : y.cls = RX1)
    (k1 : Cond.methodLink own index y ∈ gws) (k2 : Cond.instanceMethod y ∈ gws) (k3 : Cond.selects RX1 y y ∈ gws) (k4 : Cond.code y b n (some .long) ∈ gws)
    (hd : y.cls ≠ "java/lang/invoke/MethodHandle" ∧ y.cls ≠ "java/lang/invoke/VarHandle" ∧ (parseMethodDescriptor y.desc).map (fun d => d.parameters.length) = some As.length)
    (hR : rm.frames + 1 ≤ R.frames ∧ 8 + (n + 11) + rm.locals ≤ R.locals) (hE : gE t A0 s s.heap) (hS : va_S A0 s.heap H locs) (hA : ∀ q, s.heap.size ≤ q → A0 q) (hP : va_P D vwCl (wA h0 h1 o0 m0 m1 m2 cJ cO cK cI f g u) H) (hK : va_K D vwCl [(cJ, .long), (cO, .long), (cK, .long), (cI, .int)] s) (hD : va_D A0 (wA h0 h1 o0 m0 m1 m2 cJ cO cK cI f g u)) (hsize : ls.size = nL)
    (hstack : st0 = As.reverse ++ .ref m0 :: rest) (hW : (rest.map fun v => v.category).sum ≤ 8) (hf : cells + rm.cells ≤ R.cells ∧ slots + rm.slots ≤ R.slots) (hdg : decode cc pc = .ok (.invokevirtual index, 3))
    (kk : ∀ (r : Int64) (u' : mS) (H1 : Heap) (locs1 : List Loc), post r u' → va_P D vwCl (wA h0 h1 o0 m0 m1 m2 cJ cO cK cI f g u') H1 → va_D A0 (wA h0 h1 o0 m0 m1 m2 cJ cO cK cI f g u') → va_S A0 s.heap H1 locs1 → W p l e R s m args below meth c H1 locs1 (cells + rm.cells) (slots + rm.slots) Q (F0 m (pc + 3) ls (.long r :: rest))) :
    W p l e R s m args below meth c H locs cells slots Q (F0 m pc ls st0) := by
  have hPc := hP.sub (ws' := wM m0 m1 m2 cK cI u) [3, 4, 5] rfl
  have hDc := hD.sub (ws' := wM m0 m1 m2 cK cI u) [3, 4, 5] (by decide) rfl
  have hKc := hK.sub (tys' := [(cK, .long), (cI, .int)]) [2, 3] rfl
  have hFc := va_free (wc := wM m0 m1 m2 cK cI u) hD hS hA [3, 4, 5] rfl
  refine va_calll (va_runV (As := As) (rest := rest) (g := F0 m pc ls st0) S (hM H.size) (cwV As.length S.2.2.2.2 (gw_V hs k1 k2 k3 in_X1 k4) rfl rfl rfl ⟨hyc, hd⟩ hR) (g_preM hE hS hPc hKc hDc hFc) rfl rfl hsize hstack (lv_room hW) hdg hf) hS (fun q _ h => hFc q h) hFc
    (fun r u' t' H1 locs1 ht hvm hp hB hz hk hS1 => ?_)
  obtain ⟨hP1, hK1, hD1⟩ := hB
  rw [ht] at hP1
  obtain ⟨hP2, hD2⟩ := va_join (wr := wL h0 h1 o0 cJ cO f g) (w1 := wM m0 m1 m2 cK cI u') hP hD [3, 4, 5] [0, 1, 2] rfl rfl (by decide) (by decide) hk hFc hP1 hD1
  exact kk r u' H1 locs1 hp hP2 hD2 hS1
theorem g_callAi {post : Int32 → mS → Prop} (S : CallFix p m c cc nL s args Ts own) (hs : ∀ w ∈ gws, w ∈ Ts) (hM : gMi l y b n rm t D m0 m1 m2 cK cI u As post) (hyc : y.cls = RX1)
    (k1 : Cond.methodLink own index y ∈ gws) (k2 : Cond.instanceMethod y ∈ gws) (k3 : Cond.selects RX1 y y ∈ gws) (k4 : Cond.code y b n (some .int) ∈ gws)
    (hd : y.cls ≠ "java/lang/invoke/MethodHandle" ∧ y.cls ≠ "java/lang/invoke/VarHandle" ∧ (parseMethodDescriptor y.desc).map (fun d => d.parameters.length) = some As.length)
    (hR : rm.frames + 1 ≤ R.frames ∧ 8 + (n + 11) + rm.locals ≤ R.locals) (hE : gE t A0 s s.heap) (hS : va_S A0 s.heap H locs) (hA : ∀ q, s.heap.size ≤ q → A0 q) (hP : va_P D vwCl (wA h0 h1 o0 m0 m1 m2 cJ cO cK cI f g u) H) (hK : va_K D vwCl [(cJ, .long), (cO, .long), (cK, .long), (cI, .int)] s) (hD : va_D A0 (wA h0 h1 o0 m0 m1 m2 cJ cO cK cI f g u)) (hsize : ls.size = nL)
    (hstack : st0 = As.reverse ++ .ref m0 :: rest) (hW : (rest.map fun v => v.category).sum ≤ 8) (hf : cells + rm.cells ≤ R.cells ∧ slots + rm.slots ≤ R.slots) (hdg : decode cc pc = .ok (.invokevirtual index, 3))
    (kk : ∀ (r : Int32) (u' : mS) (H1 : Heap) (locs1 : List Loc), post r u' → va_P D vwCl (wA h0 h1 o0 m0 m1 m2 cJ cO cK cI f g u') H1 → va_D A0 (wA h0 h1 o0 m0 m1 m2 cJ cO cK cI f g u') → va_S A0 s.heap H1 locs1 → W p l e R s m args below meth c H1 locs1 (cells + rm.cells) (slots + rm.slots) Q (F0 m (pc + 3) ls (.int r :: rest))) :
    W p l e R s m args below meth c H locs cells slots Q (F0 m pc ls st0) := by
  have hPc := hP.sub (ws' := wM m0 m1 m2 cK cI u) [3, 4, 5] rfl
  have hDc := hD.sub (ws' := wM m0 m1 m2 cK cI u) [3, 4, 5] (by decide) rfl
  have hKc := hK.sub (tys' := [(cK, .long), (cI, .int)]) [2, 3] rfl
  have hFc := va_free (wc := wM m0 m1 m2 cK cI u) hD hS hA [3, 4, 5] rfl
  refine va_calli (va_runV (As := As) (rest := rest) (g := F0 m pc ls st0) S (hM H.size) (cwV As.length S.2.2.2.2 (gw_V hs k1 k2 k3 in_X1 k4) rfl rfl rfl ⟨hyc, hd⟩ hR) (g_preM hE hS hPc hKc hDc hFc) rfl rfl hsize hstack (lv_room hW) hdg hf) hS (fun q _ h => hFc q h) hFc
    (fun r u' t' H1 locs1 ht hvm hp hB hz hk hS1 => ?_)
  obtain ⟨hP1, hK1, hD1⟩ := hB
  rw [ht] at hP1
  obtain ⟨hP2, hD2⟩ := va_join (wr := wL h0 h1 o0 cJ cO f g) (w1 := wM m0 m1 m2 cK cI u') hP hD [3, 4, 5] [0, 1, 2] rfl rfl (by decide) (by decide) hk hFc hP1 hD1
  exact kk r u' H1 locs1 hp hP2 hD2 hS1
end GW
set_option maxHeartbeats 4000000 in
set_option maxRecDepth 100000 in
theorem lc_set {p : Program} {l : Launch} {e : Env} {s : State} {m : MethodId} {args : Array Value} {below : List Frame} {meth : Method} {c : Code} {H : Heap} {locs : List Loc} {cells slots : Nat} {Q : State → Prop} {ls : Array Slot} {A : Nat → Prop} {t b L a : Nat} {xs : Nat → Int32} {D : va_G} {h0 h1 o0 m0 m1 m2 : Nat} {cJ cO cK cI : ClassId} {f g : Nat → Int64} {u : mS} (hnt : l.stackTraces = false) (S : CallFix p m c code 8 s args lw_tbl RL) (hE : gE t A s s.heap) (hS : va_S A s.heap H locs) (hA : ∀ q, s.heap.size ≤ q → A q) (hP : va_P D vwCl (wA h0 h1 o0 m0 m1 m2 cJ cO cK cI f g u) H) (hK : va_K D vwCl [(cJ, .long), (cO, .long), (cK, .long), (cI, .int)] s) (hD : va_D A (wA h0 h1 o0 m0 m1 m2 cJ cO cK cI f g u)) (hX : va_X b L xs s s.heap) (hbl : b < s.heap.size) (hbA : ¬ A b) (hB : gBs f) (hu : u.2.1 = f) (hi : a + 5 ≤ L) (hL : L ≤ 2560) (hc1 : cells + 1 ≤ 1040) (hs1 : slots + 6 ≤ 8297) (hl : lv_has ls 8 [(0, .ref b), (1, .ref h0), (2, .ref m0), (3, .ref o0), (4, .int (nI a))])
    (kk : ∀ (f' g' : Nat → Int64) (u' : mS) (H : Heap) (locs : List Loc) (ls : Array Slot), gBs f' → u'.2.1 = f' → va_P D vwCl (wA h0 h1 o0 m0 m1 m2 cJ cO cK cI f' g' u') H → va_D A (wA h0 h1 o0 m0 m1 m2 cJ cO cK cI f' g' u') → va_S A s.heap H locs → lv_has ls 8 [(0, .ref b), (1, .ref h0), (2, .ref m0), (3, .ref o0), (4, .int (nI a))] → W p l e room_1 s m args below meth c H locs (cells + 1) (slots + 6) Q (F0 m 606 ls [])) :
    W p l e room_1 s m args below meth c H locs cells slots Q (F0 m 80 ls []) := by
  obtain ⟨hx, hb, hml, hown, hts⟩ := id S
  have hs : ∀ w ∈ gws, w ∈ lw_tbl := fun w h => gws_tbl h
  refine lv_aload_n hx hb dL_law_80 rfl (lv_at hl 1 rfl) ?_
  refine lv_aload_n hx hb dL_law_81 rfl (lv_at hl 0 rfl) ?_
  refine lv_iload hx hb dL_law_82 (lv_at hl 4 rfl) ?_
  refine lv_iconst (v := 1) hx hb dL_law_84 (by decide) ?_
  refine lv_iadd hx hb dL_law_85 ?_
  refine va_sld hx hb hX hbl hbA hS (six (k := 1) (by decide) (by omega) hL) dL_law_86 ?_
  refine lv_aload_n hx hb dL_law_87 rfl (lv_at hl 0 rfl) ?_
  refine lv_iload hx hb dL_law_88 (lv_at hl 4 rfl) ?_
  refine lv_iconst (v := 2) hx hb dL_law_90 (by decide) ?_
  refine lv_iadd hx hb dL_law_91 ?_
  refine va_sld hx hb hX hbl hbA hS (six (k := 2) (by decide) (by omega) hL) dL_law_92 ?_
  refine lv_i2l hx hb dL_law_93 rfl ?_
  refine lv_bipush (v := 32) hx hb dL_law_94 (by decide) ?_
  refine lv_lshl hx hb dL_law_96 rfl ?_
  refine lv_aload_n hx hb dL_law_97 rfl (lv_at hl 0 rfl) ?_
  refine lv_iload hx hb dL_law_98 (lv_at hl 4 rfl) ?_
  refine lv_iconst (v := 3) hx hb dL_law_100 (by decide) ?_
  refine lv_iadd hx hb dL_law_101 ?_
  refine va_sld hx hb hX hbl hbA hS (six (k := 3) (by decide) (by omega) hL) dL_law_102 ?_
  refine lv_i2l hx hb dL_law_103 rfl ?_
  refine lv_ldc2 hx hb hown (hts _ (hs _ kl_L_45)) dL_law_104 ?_
  refine lv_land hx hb dL_law_107 ?_
  refine lv_lor hx hb dL_law_108 ?_
  refine lv_aload_n hx hb dL_law_109 rfl (lv_at hl 3 rfl) ?_
  refine g_callL S hs (tL_set l hnt t D h0 h1 o0 cJ cO f g (xs ((nI a) + (1 : Int32)).toNatClampNeg) ((((xs ((nI a) + (2 : Int32)).toNatClampNeg).toInt64) <<< ((32 : Int32).toInt64 &&& 63)) ||| (((xs ((nI a) + (3 : Int32)).toNatClampNeg).toInt64) &&& (4294967295 : Int64)))) ml_L_47 st_yL_set in_L cd_yL_set hd_yL_set ⟨by decide, by decide⟩ hE hS hA hP hK hD hl.1 rfl (Nat.le_of_ble_eq_true rfl) ⟨by show cells + 1 ≤ 1040; omega, by show slots + 6 ≤ 8297; omega⟩ dL_law_110 (fun k9 f9 g9 H locs hres hP hD hS => ?_)
  refine lv_istore (lv' := [(5, .int k9), (0, .ref b), (1, .ref h0), (2, .ref m0), (3, .ref o0), (4, .int (nI a))]) hx hb dL_law_113 hl (by decide) rfl (fun ls hl => ?_)
  refine lv_aload_n hx hb dL_law_115 rfl (lv_at hl 3 rfl) ?_
  refine lv_aload_n hx hb dL_law_116 rfl (lv_at hl 1 rfl) ?_
  refine lv_iload hx hb dL_law_117 (lv_at hl 5 rfl) ?_
  refine lv_iconst (v := 1) hx hb dL_law_119 (by decide) ?_
  refine lv_iadd hx hb dL_law_120 ?_
  refine va_sld hx hb hX hbl hbA hS (six (k := 1) (by decide) (by omega) hL) dL_law_121 ?_
  refine lv_aload_n hx hb dL_law_122 rfl (lv_at hl 1 rfl) ?_
  refine lv_iload hx hb dL_law_123 (lv_at hl 5 rfl) ?_
  refine lv_iconst (v := 2) hx hb dL_law_125 (by decide) ?_
  refine lv_iadd hx hb dL_law_126 ?_
  refine va_sld hx hb hX hbl hbA hS (six (k := 2) (by decide) (by omega) hL) dL_law_127 ?_
  refine lv_i2l hx hb dL_law_128 rfl ?_
  refine lv_bipush (v := 32) hx hb dL_law_129 (by decide) ?_
  refine lv_lshl hx hb dL_law_131 rfl ?_
  refine lv_aload_n hx hb dL_law_132 rfl (lv_at hl 1 rfl) ?_
  refine lv_iload hx hb dL_law_133 (lv_at hl 5 rfl) ?_
  refine lv_iconst (v := 3) hx hb dL_law_135 (by decide) ?_
  refine lv_iadd hx hb dL_law_136 ?_
  refine va_sld hx hb hX hbl hbA hS (six (k := 3) (by decide) (by omega) hL) dL_law_137 ?_
  refine lv_i2l hx hb dL_law_138 rfl ?_
  refine lv_ldc2 hx hb hown (hts _ (hs _ kl_L_45)) dL_law_139 ?_
  refine lv_land hx hb dL_law_142 ?_
  refine lv_lor hx hb dL_law_143 ?_
  refine g_callAl S hs (tX1_set l t D m0 m1 m2 cK cI u (xs ((nI a) + (1 : Int32)).toNatClampNeg) ((((xs ((nI a) + (2 : Int32)).toNatClampNeg).toInt64) <<< ((32 : Int32).toInt64 &&& 63)) ||| (((xs ((nI a) + (3 : Int32)).toNatClampNeg).toInt64) &&& (4294967295 : Int64)))) rfl ml_L_52 im_yX1_set se_yX1_set cd_yX1_set hd_yX1_set ⟨by decide, by decide⟩ hE hS hA hP hK hD hl.1 rfl (Nat.le_of_ble_eq_true rfl) ⟨by show cells + 1 + 0 ≤ 1040; omega, by show slots + 6 + 0 ≤ 8297; omega⟩ dL_law_144 (fun z9 u9 H locs hz9 hP hD hS => ?_)
  have hag : gAg (jset f (xs ((nI a) + (1 : Int32)).toNatClampNeg) ((((xs ((nI a) + (2 : Int32)).toNatClampNeg).toInt64) <<< ((32 : Int32).toInt64 &&& 63)) ||| (((xs ((nI a) + (3 : Int32)).toNatClampNeg).toInt64) &&& (4294967295 : Int64)))) cod1 f z9 u9 := by rw [hz9.1, hz9.2, ← hu]; exact ag_set u (xs ((nI a) + (1 : Int32)).toNatClampNeg) ((((xs ((nI a) + (2 : Int32)).toNatClampNeg).toInt64) <<< ((32 : Int32).toInt64 &&& 63)) ||| (((xs ((nI a) + (3 : Int32)).toNatClampNeg).toInt64) &&& (4294967295 : Int64))) (by rw [hu]; exact hB)
  obtain ⟨a1, a2, a3, a4⟩ := gRes_k hres hag hB
  refine lv_lstore (lv' := [(6, .long z9), (5, .int k9), (0, .ref b), (1, .ref h0), (2, .ref m0), (3, .ref o0), (4, .int (nI a))]) hx hb dL_law_147 hl (by decide) rfl (fun ls hl => ?_)
  refine lv_aload_n hx hb dL_law_149 rfl (lv_at hl 4 rfl) ?_
  refine g_callAi S hs (tX1_thrown l t D m0 m1 m2 cK cI u9) rfl ml_L_53 im_yX1_thrown se_yX1_thrown cd_yX1_thrown hd_yX1_thrown ⟨by decide, by decide⟩ hE hS hA hP hK hD hl.1 rfl (Nat.le_of_ble_eq_true rfl) ⟨by show cells + 1 + 0 ≤ 1040; omega, by show slots + 6 + 0 ≤ 8297; omega⟩ dL_law_150 (fun r9 u8 H locs hr9 hP hD hS => ?_)
  obtain ⟨hr8, hu8⟩ := hr9
  rw [show u8 = u9 from hu8] at hP hD
  rw [hr8]
  have hP : va_P D vwCl (wA h0 h1 o0 m0 m1 m2 cJ cO cK cI f9 g9 u9) H := hP
  have hD : va_D A (wA h0 h1 o0 m0 m1 m2 cJ cO cK cI f9 g9 u9) := hD
  refine lv_iload hx hb dL_law_153 (lv_at hl 1 rfl) ?_
  refine lv_icmp_eq (tgt := 160) hx hb dL_law_155 (by decide) (fun _ => ?_) (fun c_1 => absurd (show (kthrown u9).1 = k9 from a1) c_1)
  refine lv_iload hx hb dL_law_160 (lv_at hl 1 rfl) ?_
  have fin : ∀ (H : Heap) (locs : List Loc), va_P D vwCl (wA h0 h1 o0 m0 m1 m2 cJ cO cK cI f9 g9 u9) H → va_S A s.heap H locs → W p l e room_1 s m args below meth c H locs (cells + 1) (slots + 6) Q (F0 m 176 ls []) := fun H locs hP hS => lv_goto (tgt := 606) hx hb dL_law_176 (by decide) (kk f9 g9 u9 H locs ls a4 a3 hP hD hS (lv_sub hl [2, 3, 4, 5, 6] rfl))
  refine lv_if_ne (tgt := 176) hx hb dL_law_162 (by decide) (fun _ => fin H locs hP hS) (fun c_2 => ?_)
  refine lv_aload_n hx hb dL_law_165 rfl (lv_at hl 5 rfl) ?_
  refine lv_iconst (v := 0) hx hb dL_law_166 (by decide) ?_
  refine va_lald hx hb hK hP 2 1 rfl rfl (by unfold vp_in; decide) dL_law_167 ?_
  refine lv_lload hx hb dL_law_168 (lv_at hl 0 rfl) ?_
  refine g_lc_eq (tgt := 176) hx hb dL_law_170 dL_law_171 (by decide) (fun _ => fin H locs hP hS) (fun c_3 => absurd (by rw [sb_cl0]; exact a2 c_2) c_3)
set_option maxHeartbeats 4000000 in
set_option maxRecDepth 100000 in
theorem lc_get {p : Program} {l : Launch} {e : Env} {s : State} {m : MethodId} {args : Array Value} {below : List Frame} {meth : Method} {c : Code} {H : Heap} {locs : List Loc} {cells slots : Nat} {Q : State → Prop} {ls : Array Slot} {A : Nat → Prop} {t b L a : Nat} {xs : Nat → Int32} {D : va_G} {h0 h1 o0 m0 m1 m2 : Nat} {cJ cO cK cI : ClassId} {f g : Nat → Int64} {u : mS} (hnt : l.stackTraces = false) (S : CallFix p m c code 8 s args lw_tbl RL) (hE : gE t A s s.heap) (hS : va_S A s.heap H locs) (hA : ∀ q, s.heap.size ≤ q → A q) (hP : va_P D vwCl (wA h0 h1 o0 m0 m1 m2 cJ cO cK cI f g u) H) (hK : va_K D vwCl [(cJ, .long), (cO, .long), (cK, .long), (cI, .int)] s) (hD : va_D A (wA h0 h1 o0 m0 m1 m2 cJ cO cK cI f g u)) (hX : va_X b L xs s s.heap) (hbl : b < s.heap.size) (hbA : ¬ A b) (hB : gBs f) (hu : u.2.1 = f) (hi : a + 5 ≤ L) (hL : L ≤ 2560) (hc1 : cells + 1 ≤ 1040) (hs1 : slots + 6 ≤ 8297) (hl : lv_has ls 8 [(0, .ref b), (1, .ref h0), (2, .ref m0), (3, .ref o0), (4, .int (nI a))])
    (kk : ∀ (f' g' : Nat → Int64) (u' : mS) (H : Heap) (locs : List Loc) (ls : Array Slot), gBs f' → u'.2.1 = f' → va_P D vwCl (wA h0 h1 o0 m0 m1 m2 cJ cO cK cI f' g' u') H → va_D A (wA h0 h1 o0 m0 m1 m2 cJ cO cK cI f' g' u') → va_S A s.heap H locs → lv_has ls 8 [(0, .ref b), (1, .ref h0), (2, .ref m0), (3, .ref o0), (4, .int (nI a))] → W p l e room_1 s m args below meth c H locs (cells + 1) (slots + 6) Q (F0 m 606 ls [])) :
    W p l e room_1 s m args below meth c H locs cells slots Q (F0 m 179 ls []) := by
  obtain ⟨hx, hb, hml, hown, hts⟩ := id S
  have hs : ∀ w ∈ gws, w ∈ lw_tbl := fun w h => gws_tbl h
  refine lv_aload_n hx hb dL_law_179 rfl (lv_at hl 1 rfl) ?_
  refine lv_aload_n hx hb dL_law_180 rfl (lv_at hl 0 rfl) ?_
  refine lv_iload hx hb dL_law_181 (lv_at hl 4 rfl) ?_
  refine lv_iconst (v := 1) hx hb dL_law_183 (by decide) ?_
  refine lv_iadd hx hb dL_law_184 ?_
  refine va_sld hx hb hX hbl hbA hS (six (k := 1) (by decide) (by omega) hL) dL_law_185 ?_
  refine lv_aload_n hx hb dL_law_186 rfl (lv_at hl 3 rfl) ?_
  refine g_callL S hs (tL_get l hnt t D h0 h1 o0 cJ cO f g (xs ((nI a) + (1 : Int32)).toNatClampNeg)) ml_L_57 st_yL_get in_L cd_yL_get hd_yL_get ⟨by decide, by decide⟩ hE hS hA hP hK hD hl.1 rfl (Nat.le_of_ble_eq_true rfl) ⟨by show cells + 1 ≤ 1040; omega, by show slots + 6 ≤ 8297; omega⟩ dL_law_187 (fun k9 f9 g9 H locs hres hP hD hS => ?_)
  refine lv_istore (lv' := [(5, .int k9), (0, .ref b), (1, .ref h0), (2, .ref m0), (3, .ref o0), (4, .int (nI a))]) hx hb dL_law_190 hl (by decide) rfl (fun ls hl => ?_)
  refine lv_aload_n hx hb dL_law_192 rfl (lv_at hl 3 rfl) ?_
  refine lv_aload_n hx hb dL_law_193 rfl (lv_at hl 1 rfl) ?_
  refine lv_iload hx hb dL_law_194 (lv_at hl 5 rfl) ?_
  refine lv_iconst (v := 1) hx hb dL_law_196 (by decide) ?_
  refine lv_iadd hx hb dL_law_197 ?_
  refine va_sld hx hb hX hbl hbA hS (six (k := 1) (by decide) (by omega) hL) dL_law_198 ?_
  refine g_callAl S hs (tX1_get l t D m0 m1 m2 cK cI u (xs ((nI a) + (1 : Int32)).toNatClampNeg)) rfl ml_L_60 im_yX1_get se_yX1_get cd_yX1_get hd_yX1_get ⟨by decide, by decide⟩ hE hS hA hP hK hD hl.1 rfl (Nat.le_of_ble_eq_true rfl) ⟨by show cells + 1 + 0 ≤ 1040; omega, by show slots + 6 + 0 ≤ 8297; omega⟩ dL_law_199 (fun z9 u9 H locs hz9 hP hD hS => ?_)
  have hag : gAg (jget f (xs ((nI a) + (1 : Int32)).toNatClampNeg)) cod1 f z9 u9 := by rw [hz9.1, hz9.2, ← hu]; exact ag_get u (xs ((nI a) + (1 : Int32)).toNatClampNeg) (by rw [hu]; exact hB)
  obtain ⟨a1, a2, a3, a4⟩ := gRes_k hres hag hB
  refine lv_lstore (lv' := [(6, .long z9), (5, .int k9), (0, .ref b), (1, .ref h0), (2, .ref m0), (3, .ref o0), (4, .int (nI a))]) hx hb dL_law_202 hl (by decide) rfl (fun ls hl => ?_)
  refine lv_aload_n hx hb dL_law_204 rfl (lv_at hl 4 rfl) ?_
  refine g_callAi S hs (tX1_thrown l t D m0 m1 m2 cK cI u9) rfl ml_L_53 im_yX1_thrown se_yX1_thrown cd_yX1_thrown hd_yX1_thrown ⟨by decide, by decide⟩ hE hS hA hP hK hD hl.1 rfl (Nat.le_of_ble_eq_true rfl) ⟨by show cells + 1 + 0 ≤ 1040; omega, by show slots + 6 + 0 ≤ 8297; omega⟩ dL_law_205 (fun r9 u8 H locs hr9 hP hD hS => ?_)
  obtain ⟨hr8, hu8⟩ := hr9
  rw [show u8 = u9 from hu8] at hP hD
  rw [hr8]
  have hP : va_P D vwCl (wA h0 h1 o0 m0 m1 m2 cJ cO cK cI f9 g9 u9) H := hP
  have hD : va_D A (wA h0 h1 o0 m0 m1 m2 cJ cO cK cI f9 g9 u9) := hD
  refine lv_iload hx hb dL_law_208 (lv_at hl 1 rfl) ?_
  refine lv_icmp_eq (tgt := 215) hx hb dL_law_210 (by decide) (fun _ => ?_) (fun c_1 => absurd (show (kthrown u9).1 = k9 from a1) c_1)
  refine lv_iload hx hb dL_law_215 (lv_at hl 1 rfl) ?_
  have fin : ∀ (H : Heap) (locs : List Loc), va_P D vwCl (wA h0 h1 o0 m0 m1 m2 cJ cO cK cI f9 g9 u9) H → va_S A s.heap H locs → W p l e room_1 s m args below meth c H locs (cells + 1) (slots + 6) Q (F0 m 231 ls []) := fun H locs hP hS => lv_goto (tgt := 606) hx hb dL_law_231 (by decide) (kk f9 g9 u9 H locs ls a4 a3 hP hD hS (lv_sub hl [2, 3, 4, 5, 6] rfl))
  refine lv_if_ne (tgt := 231) hx hb dL_law_217 (by decide) (fun _ => fin H locs hP hS) (fun c_2 => ?_)
  refine lv_aload_n hx hb dL_law_220 rfl (lv_at hl 5 rfl) ?_
  refine lv_iconst (v := 0) hx hb dL_law_221 (by decide) ?_
  refine va_lald hx hb hK hP 2 1 rfl rfl (by unfold vp_in; decide) dL_law_222 ?_
  refine lv_lload hx hb dL_law_223 (lv_at hl 0 rfl) ?_
  refine g_lc_eq (tgt := 231) hx hb dL_law_225 dL_law_226 (by decide) (fun _ => fin H locs hP hS) (fun c_3 => absurd (by rw [sb_cl0]; exact a2 c_2) c_3)
set_option maxHeartbeats 4000000 in
set_option maxRecDepth 100000 in
theorem lc_reckon {p : Program} {l : Launch} {e : Env} {s : State} {m : MethodId} {args : Array Value} {below : List Frame} {meth : Method} {c : Code} {H : Heap} {locs : List Loc} {cells slots : Nat} {Q : State → Prop} {ls : Array Slot} {A : Nat → Prop} {t b L a : Nat} {xs : Nat → Int32} {D : va_G} {h0 h1 o0 m0 m1 m2 : Nat} {cJ cO cK cI : ClassId} {f g : Nat → Int64} {u : mS} (hnt : l.stackTraces = false) (S : CallFix p m c code 8 s args lw_tbl RL) (hE : gE t A s s.heap) (hS : va_S A s.heap H locs) (hA : ∀ q, s.heap.size ≤ q → A q) (hP : va_P D vwCl (wA h0 h1 o0 m0 m1 m2 cJ cO cK cI f g u) H) (hK : va_K D vwCl [(cJ, .long), (cO, .long), (cK, .long), (cI, .int)] s) (hD : va_D A (wA h0 h1 o0 m0 m1 m2 cJ cO cK cI f g u)) (hX : va_X b L xs s s.heap) (hbl : b < s.heap.size) (hbA : ¬ A b) (hB : gBs f) (hu : u.2.1 = f) (hi : a + 5 ≤ L) (hL : L ≤ 2560) (hc1 : cells + 1 ≤ 1040) (hs1 : slots + 6 ≤ 8297) (hl : lv_has ls 8 [(0, .ref b), (1, .ref h0), (2, .ref m0), (3, .ref o0), (4, .int (nI a))])
    (kk : ∀ (f' g' : Nat → Int64) (u' : mS) (H : Heap) (locs : List Loc) (ls : Array Slot), gBs f' → u'.2.1 = f' → va_P D vwCl (wA h0 h1 o0 m0 m1 m2 cJ cO cK cI f' g' u') H → va_D A (wA h0 h1 o0 m0 m1 m2 cJ cO cK cI f' g' u') → va_S A s.heap H locs → lv_has ls 8 [(0, .ref b), (1, .ref h0), (2, .ref m0), (3, .ref o0), (4, .int (nI a))] → W p l e room_1 s m args below meth c H locs (cells + 1) (slots + 6) Q (F0 m 606 ls [])) :
    W p l e room_1 s m args below meth c H locs cells slots Q (F0 m 234 ls []) := by
  obtain ⟨hx, hb, hml, hown, hts⟩ := id S
  have hs : ∀ w ∈ gws, w ∈ lw_tbl := fun w h => gws_tbl h
  refine lv_aload_n hx hb dL_law_234 rfl (lv_at hl 1 rfl) ?_
  refine lv_aload_n hx hb dL_law_235 rfl (lv_at hl 0 rfl) ?_
  refine lv_iload hx hb dL_law_236 (lv_at hl 4 rfl) ?_
  refine lv_iconst (v := 1) hx hb dL_law_238 (by decide) ?_
  refine lv_iadd hx hb dL_law_239 ?_
  refine va_sld hx hb hX hbl hbA hS (six (k := 1) (by decide) (by omega) hL) dL_law_240 ?_
  refine lv_aload_n hx hb dL_law_241 rfl (lv_at hl 0 rfl) ?_
  refine lv_iload hx hb dL_law_242 (lv_at hl 4 rfl) ?_
  refine lv_iconst (v := 2) hx hb dL_law_244 (by decide) ?_
  refine lv_iadd hx hb dL_law_245 ?_
  refine va_sld hx hb hX hbl hbA hS (six (k := 2) (by decide) (by omega) hL) dL_law_246 ?_
  refine lv_aload_n hx hb dL_law_247 rfl (lv_at hl 0 rfl) ?_
  refine lv_iload hx hb dL_law_248 (lv_at hl 4 rfl) ?_
  refine lv_iconst (v := 3) hx hb dL_law_250 (by decide) ?_
  refine lv_iadd hx hb dL_law_251 ?_
  refine va_sld hx hb hX hbl hbA hS (six (k := 3) (by decide) (by omega) hL) dL_law_252 ?_
  refine lv_aload_n hx hb dL_law_253 rfl (lv_at hl 0 rfl) ?_
  refine lv_iload hx hb dL_law_254 (lv_at hl 4 rfl) ?_
  refine lv_iconst (v := 4) hx hb dL_law_256 (by decide) ?_
  refine lv_iadd hx hb dL_law_257 ?_
  refine va_sld hx hb hX hbl hbA hS (six (k := 4) (by decide) (by omega) hL) dL_law_258 ?_
  refine lv_aload_n hx hb dL_law_259 rfl (lv_at hl 3 rfl) ?_
  refine g_callL S hs (tL_reckon l hnt t D h0 h1 o0 cJ cO f g (xs ((nI a) + (1 : Int32)).toNatClampNeg) (xs ((nI a) + (2 : Int32)).toNatClampNeg) (xs ((nI a) + (3 : Int32)).toNatClampNeg) (xs ((nI a) + (4 : Int32)).toNatClampNeg)) ml_L_61 st_yL_reckon in_L cd_yL_reckon hd_yL_reckon ⟨by decide, by decide⟩ hE hS hA hP hK hD hl.1 rfl (Nat.le_of_ble_eq_true rfl) ⟨by show cells + 1 ≤ 1040; omega, by show slots + 6 ≤ 8297; omega⟩ dL_law_260 (fun k9 f9 g9 H locs hres hP hD hS => ?_)
  refine lv_istore (lv' := [(5, .int k9), (0, .ref b), (1, .ref h0), (2, .ref m0), (3, .ref o0), (4, .int (nI a))]) hx hb dL_law_263 hl (by decide) rfl (fun ls hl => ?_)
  refine lv_aload_n hx hb dL_law_265 rfl (lv_at hl 3 rfl) ?_
  refine lv_aload_n hx hb dL_law_266 rfl (lv_at hl 1 rfl) ?_
  refine lv_iload hx hb dL_law_267 (lv_at hl 5 rfl) ?_
  refine lv_iconst (v := 1) hx hb dL_law_269 (by decide) ?_
  refine lv_iadd hx hb dL_law_270 ?_
  refine va_sld hx hb hX hbl hbA hS (six (k := 1) (by decide) (by omega) hL) dL_law_271 ?_
  refine lv_aload_n hx hb dL_law_272 rfl (lv_at hl 1 rfl) ?_
  refine lv_iload hx hb dL_law_273 (lv_at hl 5 rfl) ?_
  refine lv_iconst (v := 2) hx hb dL_law_275 (by decide) ?_
  refine lv_iadd hx hb dL_law_276 ?_
  refine va_sld hx hb hX hbl hbA hS (six (k := 2) (by decide) (by omega) hL) dL_law_277 ?_
  refine lv_aload_n hx hb dL_law_278 rfl (lv_at hl 1 rfl) ?_
  refine lv_iload hx hb dL_law_279 (lv_at hl 5 rfl) ?_
  refine lv_iconst (v := 3) hx hb dL_law_281 (by decide) ?_
  refine lv_iadd hx hb dL_law_282 ?_
  refine va_sld hx hb hX hbl hbA hS (six (k := 3) (by decide) (by omega) hL) dL_law_283 ?_
  refine lv_aload_n hx hb dL_law_284 rfl (lv_at hl 1 rfl) ?_
  refine lv_iload hx hb dL_law_285 (lv_at hl 5 rfl) ?_
  refine lv_iconst (v := 4) hx hb dL_law_287 (by decide) ?_
  refine lv_iadd hx hb dL_law_288 ?_
  refine va_sld hx hb hX hbl hbA hS (six (k := 4) (by decide) (by omega) hL) dL_law_289 ?_
  refine g_callAl S hs (tX1_reckon l t D m0 m1 m2 cK cI u (xs ((nI a) + (1 : Int32)).toNatClampNeg) (xs ((nI a) + (2 : Int32)).toNatClampNeg) (xs ((nI a) + (3 : Int32)).toNatClampNeg) (xs ((nI a) + (4 : Int32)).toNatClampNeg)) rfl ml_L_64 im_yX1_reckon se_yX1_reckon cd_yX1_reckon hd_yX1_reckon ⟨by decide, by decide⟩ hE hS hA hP hK hD hl.1 rfl (Nat.le_of_ble_eq_true rfl) ⟨by show cells + 1 + 0 ≤ 1040; omega, by show slots + 6 + 0 ≤ 8297; omega⟩ dL_law_290 (fun z9 u9 H locs hz9 hP hD hS => ?_)
  have hag : gAg (jreckon f (xs ((nI a) + (1 : Int32)).toNatClampNeg) (xs ((nI a) + (2 : Int32)).toNatClampNeg) (xs ((nI a) + (3 : Int32)).toNatClampNeg) (xs ((nI a) + (4 : Int32)).toNatClampNeg)) cod3 f z9 u9 := by rw [hz9.1, hz9.2, ← hu]; exact ag_reckon u (xs ((nI a) + (1 : Int32)).toNatClampNeg) (xs ((nI a) + (2 : Int32)).toNatClampNeg) (xs ((nI a) + (3 : Int32)).toNatClampNeg) (xs ((nI a) + (4 : Int32)).toNatClampNeg) (by rw [hu]; exact hB)
  obtain ⟨a1, a2, a3, a4⟩ := gRes_k hres hag hB
  refine lv_lstore (lv' := [(6, .long z9), (5, .int k9), (0, .ref b), (1, .ref h0), (2, .ref m0), (3, .ref o0), (4, .int (nI a))]) hx hb dL_law_293 hl (by decide) rfl (fun ls hl => ?_)
  refine lv_aload_n hx hb dL_law_295 rfl (lv_at hl 4 rfl) ?_
  refine g_callAi S hs (tX1_thrown l t D m0 m1 m2 cK cI u9) rfl ml_L_53 im_yX1_thrown se_yX1_thrown cd_yX1_thrown hd_yX1_thrown ⟨by decide, by decide⟩ hE hS hA hP hK hD hl.1 rfl (Nat.le_of_ble_eq_true rfl) ⟨by show cells + 1 + 0 ≤ 1040; omega, by show slots + 6 + 0 ≤ 8297; omega⟩ dL_law_296 (fun r9 u8 H locs hr9 hP hD hS => ?_)
  obtain ⟨hr8, hu8⟩ := hr9
  rw [show u8 = u9 from hu8] at hP hD
  rw [hr8]
  have hP : va_P D vwCl (wA h0 h1 o0 m0 m1 m2 cJ cO cK cI f9 g9 u9) H := hP
  have hD : va_D A (wA h0 h1 o0 m0 m1 m2 cJ cO cK cI f9 g9 u9) := hD
  refine lv_iload hx hb dL_law_299 (lv_at hl 1 rfl) ?_
  refine lv_icmp_eq (tgt := 306) hx hb dL_law_301 (by decide) (fun _ => ?_) (fun c_1 => absurd (show (kthrown u9).1 = k9 from a1) c_1)
  refine lv_iload hx hb dL_law_306 (lv_at hl 1 rfl) ?_
  have fin : ∀ (H : Heap) (locs : List Loc), va_P D vwCl (wA h0 h1 o0 m0 m1 m2 cJ cO cK cI f9 g9 u9) H → va_S A s.heap H locs → W p l e room_1 s m args below meth c H locs (cells + 1) (slots + 6) Q (F0 m 322 ls []) := fun H locs hP hS => lv_goto (tgt := 606) hx hb dL_law_322 (by decide) (kk f9 g9 u9 H locs ls a4 a3 hP hD hS (lv_sub hl [2, 3, 4, 5, 6] rfl))
  refine lv_if_ne (tgt := 322) hx hb dL_law_308 (by decide) (fun _ => fin H locs hP hS) (fun c_2 => ?_)
  refine lv_aload_n hx hb dL_law_311 rfl (lv_at hl 5 rfl) ?_
  refine lv_iconst (v := 0) hx hb dL_law_312 (by decide) ?_
  refine va_lald hx hb hK hP 2 1 rfl rfl (by unfold vp_in; decide) dL_law_313 ?_
  refine lv_lload hx hb dL_law_314 (lv_at hl 0 rfl) ?_
  refine g_lc_eq (tgt := 322) hx hb dL_law_316 dL_law_317 (by decide) (fun _ => fin H locs hP hS) (fun c_3 => absurd (by rw [sb_cl0]; exact a2 c_2) c_3)
set_option maxHeartbeats 4000000 in
set_option maxRecDepth 100000 in
theorem lc_turn {p : Program} {l : Launch} {e : Env} {s : State} {m : MethodId} {args : Array Value} {below : List Frame} {meth : Method} {c : Code} {H : Heap} {locs : List Loc} {cells slots : Nat} {Q : State → Prop} {ls : Array Slot} {A : Nat → Prop} {t b L a : Nat} {xs : Nat → Int32} {D : va_G} {h0 h1 o0 m0 m1 m2 : Nat} {cJ cO cK cI : ClassId} {f g : Nat → Int64} {u : mS} (hnt : l.stackTraces = false) (S : CallFix p m c code 8 s args lw_tbl RL) (hE : gE t A s s.heap) (hS : va_S A s.heap H locs) (hA : ∀ q, s.heap.size ≤ q → A q) (hP : va_P D vwCl (wA h0 h1 o0 m0 m1 m2 cJ cO cK cI f g u) H) (hK : va_K D vwCl [(cJ, .long), (cO, .long), (cK, .long), (cI, .int)] s) (hD : va_D A (wA h0 h1 o0 m0 m1 m2 cJ cO cK cI f g u)) (hX : va_X b L xs s s.heap) (hbl : b < s.heap.size) (hbA : ¬ A b) (hB : gBs f) (hu : u.2.1 = f) (hi : a + 5 ≤ L) (hL : L ≤ 2560) (hc1 : cells + 1 ≤ 1040) (hs1 : slots + 6 ≤ 8297) (hl : lv_has ls 8 [(0, .ref b), (1, .ref h0), (2, .ref m0), (3, .ref o0), (4, .int (nI a))])
    (kk : ∀ (f' g' : Nat → Int64) (u' : mS) (H : Heap) (locs : List Loc) (ls : Array Slot), gBs f' → u'.2.1 = f' → va_P D vwCl (wA h0 h1 o0 m0 m1 m2 cJ cO cK cI f' g' u') H → va_D A (wA h0 h1 o0 m0 m1 m2 cJ cO cK cI f' g' u') → va_S A s.heap H locs → lv_has ls 8 [(0, .ref b), (1, .ref h0), (2, .ref m0), (3, .ref o0), (4, .int (nI a))] → W p l e room_1 s m args below meth c H locs (cells + 1) (slots + 6) Q (F0 m 606 ls [])) :
    W p l e room_1 s m args below meth c H locs cells slots Q (F0 m 325 ls []) := by
  obtain ⟨hx, hb, hml, hown, hts⟩ := id S
  have hs : ∀ w ∈ gws, w ∈ lw_tbl := fun w h => gws_tbl h
  refine lv_aload_n hx hb dL_law_325 rfl (lv_at hl 1 rfl) ?_
  refine lv_aload_n hx hb dL_law_326 rfl (lv_at hl 0 rfl) ?_
  refine lv_iload hx hb dL_law_327 (lv_at hl 4 rfl) ?_
  refine lv_iconst (v := 1) hx hb dL_law_329 (by decide) ?_
  refine lv_iadd hx hb dL_law_330 ?_
  refine va_sld hx hb hX hbl hbA hS (six (k := 1) (by decide) (by omega) hL) dL_law_331 ?_
  refine lv_aload_n hx hb dL_law_332 rfl (lv_at hl 0 rfl) ?_
  refine lv_iload hx hb dL_law_333 (lv_at hl 4 rfl) ?_
  refine lv_iconst (v := 2) hx hb dL_law_335 (by decide) ?_
  refine lv_iadd hx hb dL_law_336 ?_
  refine va_sld hx hb hX hbl hbA hS (six (k := 2) (by decide) (by omega) hL) dL_law_337 ?_
  refine lv_aload_n hx hb dL_law_338 rfl (lv_at hl 0 rfl) ?_
  refine lv_iload hx hb dL_law_339 (lv_at hl 4 rfl) ?_
  refine lv_iconst (v := 3) hx hb dL_law_341 (by decide) ?_
  refine lv_iadd hx hb dL_law_342 ?_
  refine va_sld hx hb hX hbl hbA hS (six (k := 3) (by decide) (by omega) hL) dL_law_343 ?_
  refine lv_aload_n hx hb dL_law_344 rfl (lv_at hl 3 rfl) ?_
  refine g_callL S hs (tL_turn l hnt t D h0 h1 o0 cJ cO f g (xs ((nI a) + (1 : Int32)).toNatClampNeg) (xs ((nI a) + (2 : Int32)).toNatClampNeg) (xs ((nI a) + (3 : Int32)).toNatClampNeg)) ml_L_65 st_yL_turn in_L cd_yL_turn hd_yL_turn ⟨by decide, by decide⟩ hE hS hA hP hK hD hl.1 rfl (Nat.le_of_ble_eq_true rfl) ⟨by show cells + 1 ≤ 1040; omega, by show slots + 6 ≤ 8297; omega⟩ dL_law_345 (fun k9 f9 g9 H locs hres hP hD hS => ?_)
  refine lv_istore (lv' := [(5, .int k9), (0, .ref b), (1, .ref h0), (2, .ref m0), (3, .ref o0), (4, .int (nI a))]) hx hb dL_law_348 hl (by decide) rfl (fun ls hl => ?_)
  refine lv_aload_n hx hb dL_law_350 rfl (lv_at hl 3 rfl) ?_
  refine lv_aload_n hx hb dL_law_351 rfl (lv_at hl 1 rfl) ?_
  refine lv_iload hx hb dL_law_352 (lv_at hl 5 rfl) ?_
  refine lv_iconst (v := 1) hx hb dL_law_354 (by decide) ?_
  refine lv_iadd hx hb dL_law_355 ?_
  refine va_sld hx hb hX hbl hbA hS (six (k := 1) (by decide) (by omega) hL) dL_law_356 ?_
  refine lv_aload_n hx hb dL_law_357 rfl (lv_at hl 1 rfl) ?_
  refine lv_iload hx hb dL_law_358 (lv_at hl 5 rfl) ?_
  refine lv_iconst (v := 2) hx hb dL_law_360 (by decide) ?_
  refine lv_iadd hx hb dL_law_361 ?_
  refine va_sld hx hb hX hbl hbA hS (six (k := 2) (by decide) (by omega) hL) dL_law_362 ?_
  refine lv_aload_n hx hb dL_law_363 rfl (lv_at hl 1 rfl) ?_
  refine lv_iload hx hb dL_law_364 (lv_at hl 5 rfl) ?_
  refine lv_iconst (v := 3) hx hb dL_law_366 (by decide) ?_
  refine lv_iadd hx hb dL_law_367 ?_
  refine va_sld hx hb hX hbl hbA hS (six (k := 3) (by decide) (by omega) hL) dL_law_368 ?_
  refine g_callAl S hs (tX1_turn l t D m0 m1 m2 cK cI u (xs ((nI a) + (1 : Int32)).toNatClampNeg) (xs ((nI a) + (2 : Int32)).toNatClampNeg) (xs ((nI a) + (3 : Int32)).toNatClampNeg)) rfl ml_L_68 im_yX1_turn se_yX1_turn cd_yX1_turn hd_yX1_turn ⟨by decide, by decide⟩ hE hS hA hP hK hD hl.1 rfl (Nat.le_of_ble_eq_true rfl) ⟨by show cells + 1 + 0 ≤ 1040; omega, by show slots + 6 + 0 ≤ 8297; omega⟩ dL_law_369 (fun z9 u9 H locs hz9 hP hD hS => ?_)
  have hag : gAg (jturn f (xs ((nI a) + (1 : Int32)).toNatClampNeg) (xs ((nI a) + (2 : Int32)).toNatClampNeg) (xs ((nI a) + (3 : Int32)).toNatClampNeg)) cod2 f z9 u9 := by rw [hz9.1, hz9.2, ← hu]; exact ag_turn u (xs ((nI a) + (1 : Int32)).toNatClampNeg) (xs ((nI a) + (2 : Int32)).toNatClampNeg) (xs ((nI a) + (3 : Int32)).toNatClampNeg) (by rw [hu]; exact hB)
  obtain ⟨a1, a2, a3, a4⟩ := gRes_k hres hag hB
  refine lv_lstore (lv' := [(6, .long z9), (5, .int k9), (0, .ref b), (1, .ref h0), (2, .ref m0), (3, .ref o0), (4, .int (nI a))]) hx hb dL_law_372 hl (by decide) rfl (fun ls hl => ?_)
  refine lv_aload_n hx hb dL_law_374 rfl (lv_at hl 4 rfl) ?_
  refine g_callAi S hs (tX1_thrown l t D m0 m1 m2 cK cI u9) rfl ml_L_53 im_yX1_thrown se_yX1_thrown cd_yX1_thrown hd_yX1_thrown ⟨by decide, by decide⟩ hE hS hA hP hK hD hl.1 rfl (Nat.le_of_ble_eq_true rfl) ⟨by show cells + 1 + 0 ≤ 1040; omega, by show slots + 6 + 0 ≤ 8297; omega⟩ dL_law_375 (fun r9 u8 H locs hr9 hP hD hS => ?_)
  obtain ⟨hr8, hu8⟩ := hr9
  rw [show u8 = u9 from hu8] at hP hD
  rw [hr8]
  have hP : va_P D vwCl (wA h0 h1 o0 m0 m1 m2 cJ cO cK cI f9 g9 u9) H := hP
  have hD : va_D A (wA h0 h1 o0 m0 m1 m2 cJ cO cK cI f9 g9 u9) := hD
  refine lv_iload hx hb dL_law_378 (lv_at hl 1 rfl) ?_
  refine lv_icmp_eq (tgt := 385) hx hb dL_law_380 (by decide) (fun _ => ?_) (fun c_1 => absurd (show (kthrown u9).1 = k9 from a1) c_1)
  refine lv_iload hx hb dL_law_385 (lv_at hl 1 rfl) ?_
  have fin : ∀ (H : Heap) (locs : List Loc), va_P D vwCl (wA h0 h1 o0 m0 m1 m2 cJ cO cK cI f9 g9 u9) H → va_S A s.heap H locs → W p l e room_1 s m args below meth c H locs (cells + 1) (slots + 6) Q (F0 m 401 ls []) := fun H locs hP hS => lv_goto (tgt := 606) hx hb dL_law_401 (by decide) (kk f9 g9 u9 H locs ls a4 a3 hP hD hS (lv_sub hl [2, 3, 4, 5, 6] rfl))
  refine lv_if_ne (tgt := 401) hx hb dL_law_387 (by decide) (fun _ => fin H locs hP hS) (fun c_2 => ?_)
  refine lv_aload_n hx hb dL_law_390 rfl (lv_at hl 5 rfl) ?_
  refine lv_iconst (v := 0) hx hb dL_law_391 (by decide) ?_
  refine va_lald hx hb hK hP 2 1 rfl rfl (by unfold vp_in; decide) dL_law_392 ?_
  refine lv_lload hx hb dL_law_393 (lv_at hl 0 rfl) ?_
  refine g_lc_eq (tgt := 401) hx hb dL_law_395 dL_law_396 (by decide) (fun _ => fin H locs hP hS) (fun c_3 => absurd (by rw [sb_cl0]; exact a2 c_2) c_3)
set_option maxHeartbeats 4000000 in
set_option maxRecDepth 100000 in
theorem lc_round {p : Program} {l : Launch} {e : Env} {s : State} {m : MethodId} {args : Array Value} {below : List Frame} {meth : Method} {c : Code} {H : Heap} {locs : List Loc} {cells slots : Nat} {Q : State → Prop} {ls : Array Slot} {A : Nat → Prop} {t b L a : Nat} {xs : Nat → Int32} {D : va_G} {h0 h1 o0 m0 m1 m2 : Nat} {cJ cO cK cI : ClassId} {f g : Nat → Int64} {u : mS} (hnt : l.stackTraces = false) (S : CallFix p m c code 8 s args lw_tbl RL) (hE : gE t A s s.heap) (hS : va_S A s.heap H locs) (hA : ∀ q, s.heap.size ≤ q → A q) (hP : va_P D vwCl (wA h0 h1 o0 m0 m1 m2 cJ cO cK cI f g u) H) (hK : va_K D vwCl [(cJ, .long), (cO, .long), (cK, .long), (cI, .int)] s) (hD : va_D A (wA h0 h1 o0 m0 m1 m2 cJ cO cK cI f g u)) (hX : va_X b L xs s s.heap) (hbl : b < s.heap.size) (hbA : ¬ A b) (hB : gBs f) (hu : u.2.1 = f) (hi : a + 5 ≤ L) (hL : L ≤ 2560) (hc1 : cells + 1 ≤ 1040) (hs1 : slots + 6 ≤ 8297) (hl : lv_has ls 8 [(0, .ref b), (1, .ref h0), (2, .ref m0), (3, .ref o0), (4, .int (nI a))])
    (kk : ∀ (f' g' : Nat → Int64) (u' : mS) (H : Heap) (locs : List Loc) (ls : Array Slot), gBs f' → u'.2.1 = f' → va_P D vwCl (wA h0 h1 o0 m0 m1 m2 cJ cO cK cI f' g' u') H → va_D A (wA h0 h1 o0 m0 m1 m2 cJ cO cK cI f' g' u') → va_S A s.heap H locs → lv_has ls 8 [(0, .ref b), (1, .ref h0), (2, .ref m0), (3, .ref o0), (4, .int (nI a))] → W p l e room_1 s m args below meth c H locs (cells + 1) (slots + 6) Q (F0 m 606 ls [])) :
    W p l e room_1 s m args below meth c H locs cells slots Q (F0 m 404 ls []) := by
  obtain ⟨hx, hb, hml, hown, hts⟩ := id S
  have hs : ∀ w ∈ gws, w ∈ lw_tbl := fun w h => gws_tbl h
  refine lv_aload_n hx hb dL_law_404 rfl (lv_at hl 1 rfl) ?_
  refine lv_aload_n hx hb dL_law_405 rfl (lv_at hl 0 rfl) ?_
  refine lv_iload hx hb dL_law_406 (lv_at hl 4 rfl) ?_
  refine lv_iconst (v := 1) hx hb dL_law_408 (by decide) ?_
  refine lv_iadd hx hb dL_law_409 ?_
  refine va_sld hx hb hX hbl hbA hS (six (k := 1) (by decide) (by omega) hL) dL_law_410 ?_
  refine lv_aload_n hx hb dL_law_411 rfl (lv_at hl 0 rfl) ?_
  refine lv_iload hx hb dL_law_412 (lv_at hl 4 rfl) ?_
  refine lv_iconst (v := 2) hx hb dL_law_414 (by decide) ?_
  refine lv_iadd hx hb dL_law_415 ?_
  refine va_sld hx hb hX hbl hbA hS (six (k := 2) (by decide) (by omega) hL) dL_law_416 ?_
  refine lv_aload_n hx hb dL_law_417 rfl (lv_at hl 0 rfl) ?_
  refine lv_iload hx hb dL_law_418 (lv_at hl 4 rfl) ?_
  refine lv_iconst (v := 3) hx hb dL_law_420 (by decide) ?_
  refine lv_iadd hx hb dL_law_421 ?_
  refine va_sld hx hb hX hbl hbA hS (six (k := 3) (by decide) (by omega) hL) dL_law_422 ?_
  refine lv_aload_n hx hb dL_law_423 rfl (lv_at hl 3 rfl) ?_
  refine g_callL S hs (tL_round l hnt t D h0 h1 o0 cJ cO f g (xs ((nI a) + (1 : Int32)).toNatClampNeg) (xs ((nI a) + (2 : Int32)).toNatClampNeg) (xs ((nI a) + (3 : Int32)).toNatClampNeg)) ml_L_69 st_yL_round in_L cd_yL_round hd_yL_round ⟨by decide, by decide⟩ hE hS hA hP hK hD hl.1 rfl (Nat.le_of_ble_eq_true rfl) ⟨by show cells + 1 ≤ 1040; omega, by show slots + 6 ≤ 8297; omega⟩ dL_law_424 (fun k9 f9 g9 H locs hres hP hD hS => ?_)
  refine lv_istore (lv' := [(5, .int k9), (0, .ref b), (1, .ref h0), (2, .ref m0), (3, .ref o0), (4, .int (nI a))]) hx hb dL_law_427 hl (by decide) rfl (fun ls hl => ?_)
  refine lv_aload_n hx hb dL_law_429 rfl (lv_at hl 3 rfl) ?_
  refine lv_aload_n hx hb dL_law_430 rfl (lv_at hl 1 rfl) ?_
  refine lv_iload hx hb dL_law_431 (lv_at hl 5 rfl) ?_
  refine lv_iconst (v := 1) hx hb dL_law_433 (by decide) ?_
  refine lv_iadd hx hb dL_law_434 ?_
  refine va_sld hx hb hX hbl hbA hS (six (k := 1) (by decide) (by omega) hL) dL_law_435 ?_
  refine lv_aload_n hx hb dL_law_436 rfl (lv_at hl 1 rfl) ?_
  refine lv_iload hx hb dL_law_437 (lv_at hl 5 rfl) ?_
  refine lv_iconst (v := 2) hx hb dL_law_439 (by decide) ?_
  refine lv_iadd hx hb dL_law_440 ?_
  refine va_sld hx hb hX hbl hbA hS (six (k := 2) (by decide) (by omega) hL) dL_law_441 ?_
  refine lv_aload_n hx hb dL_law_442 rfl (lv_at hl 1 rfl) ?_
  refine lv_iload hx hb dL_law_443 (lv_at hl 5 rfl) ?_
  refine lv_iconst (v := 3) hx hb dL_law_445 (by decide) ?_
  refine lv_iadd hx hb dL_law_446 ?_
  refine va_sld hx hb hX hbl hbA hS (six (k := 3) (by decide) (by omega) hL) dL_law_447 ?_
  refine g_callAl S hs (tX1_round l t D m0 m1 m2 cK cI u (xs ((nI a) + (1 : Int32)).toNatClampNeg) (xs ((nI a) + (2 : Int32)).toNatClampNeg) (xs ((nI a) + (3 : Int32)).toNatClampNeg)) rfl ml_L_71 im_yX1_round se_yX1_round cd_yX1_round hd_yX1_round ⟨by decide, by decide⟩ hE hS hA hP hK hD hl.1 rfl (Nat.le_of_ble_eq_true rfl) ⟨by show cells + 1 + 0 ≤ 1040; omega, by show slots + 6 + 0 ≤ 8297; omega⟩ dL_law_448 (fun z9 u9 H locs hz9 hP hD hS => ?_)
  have hag : gAg (jround f (xs ((nI a) + (1 : Int32)).toNatClampNeg) (xs ((nI a) + (2 : Int32)).toNatClampNeg) (xs ((nI a) + (3 : Int32)).toNatClampNeg)) cod2 f z9 u9 := by rw [hz9.1, hz9.2, ← hu]; exact ag_round u (xs ((nI a) + (1 : Int32)).toNatClampNeg) (xs ((nI a) + (2 : Int32)).toNatClampNeg) (xs ((nI a) + (3 : Int32)).toNatClampNeg) (by rw [hu]; exact hB)
  obtain ⟨a1, a2, a3, a4⟩ := gRes_k hres hag hB
  refine lv_lstore (lv' := [(6, .long z9), (5, .int k9), (0, .ref b), (1, .ref h0), (2, .ref m0), (3, .ref o0), (4, .int (nI a))]) hx hb dL_law_451 hl (by decide) rfl (fun ls hl => ?_)
  refine lv_aload_n hx hb dL_law_453 rfl (lv_at hl 4 rfl) ?_
  refine g_callAi S hs (tX1_thrown l t D m0 m1 m2 cK cI u9) rfl ml_L_53 im_yX1_thrown se_yX1_thrown cd_yX1_thrown hd_yX1_thrown ⟨by decide, by decide⟩ hE hS hA hP hK hD hl.1 rfl (Nat.le_of_ble_eq_true rfl) ⟨by show cells + 1 + 0 ≤ 1040; omega, by show slots + 6 + 0 ≤ 8297; omega⟩ dL_law_454 (fun r9 u8 H locs hr9 hP hD hS => ?_)
  obtain ⟨hr8, hu8⟩ := hr9
  rw [show u8 = u9 from hu8] at hP hD
  rw [hr8]
  have hP : va_P D vwCl (wA h0 h1 o0 m0 m1 m2 cJ cO cK cI f9 g9 u9) H := hP
  have hD : va_D A (wA h0 h1 o0 m0 m1 m2 cJ cO cK cI f9 g9 u9) := hD
  refine lv_iload hx hb dL_law_457 (lv_at hl 1 rfl) ?_
  refine lv_icmp_eq (tgt := 464) hx hb dL_law_459 (by decide) (fun _ => ?_) (fun c_1 => absurd (show (kthrown u9).1 = k9 from a1) c_1)
  refine lv_iload hx hb dL_law_464 (lv_at hl 1 rfl) ?_
  have fin : ∀ (H : Heap) (locs : List Loc), va_P D vwCl (wA h0 h1 o0 m0 m1 m2 cJ cO cK cI f9 g9 u9) H → va_S A s.heap H locs → W p l e room_1 s m args below meth c H locs (cells + 1) (slots + 6) Q (F0 m 480 ls []) := fun H locs hP hS => lv_goto (tgt := 606) hx hb dL_law_480 (by decide) (kk f9 g9 u9 H locs ls a4 a3 hP hD hS (lv_sub hl [2, 3, 4, 5, 6] rfl))
  refine lv_if_ne (tgt := 480) hx hb dL_law_466 (by decide) (fun _ => fin H locs hP hS) (fun c_2 => ?_)
  refine lv_aload_n hx hb dL_law_469 rfl (lv_at hl 5 rfl) ?_
  refine lv_iconst (v := 0) hx hb dL_law_470 (by decide) ?_
  refine va_lald hx hb hK hP 2 1 rfl rfl (by unfold vp_in; decide) dL_law_471 ?_
  refine lv_lload hx hb dL_law_472 (lv_at hl 0 rfl) ?_
  refine g_lc_eq (tgt := 480) hx hb dL_law_474 dL_law_475 (by decide) (fun _ => fin H locs hP hS) (fun c_3 => absurd (by rw [sb_cl0]; exact a2 c_2) c_3)
set_option maxHeartbeats 4000000 in
set_option maxRecDepth 100000 in
theorem lc_print {p : Program} {l : Launch} {e : Env} {s : State} {m : MethodId} {args : Array Value} {below : List Frame} {meth : Method} {c : Code} {H : Heap} {locs : List Loc} {cells slots : Nat} {Q : State → Prop} {ls : Array Slot} {A : Nat → Prop} {t b L a : Nat} {xs : Nat → Int32} {D : va_G} {h0 h1 o0 m0 m1 m2 : Nat} {cJ cO cK cI : ClassId} {f g : Nat → Int64} {u : mS} (hnt : l.stackTraces = false) (S : CallFix p m c code 8 s args lw_tbl RL) (hE : gE t A s s.heap) (hS : va_S A s.heap H locs) (hA : ∀ q, s.heap.size ≤ q → A q) (hP : va_P D vwCl (wA h0 h1 o0 m0 m1 m2 cJ cO cK cI f g u) H) (hK : va_K D vwCl [(cJ, .long), (cO, .long), (cK, .long), (cI, .int)] s) (hD : va_D A (wA h0 h1 o0 m0 m1 m2 cJ cO cK cI f g u)) (hX : va_X b L xs s s.heap) (hbl : b < s.heap.size) (hbA : ¬ A b) (hB : gBs f) (hu : u.2.1 = f) (hi : a + 5 ≤ L) (hL : L ≤ 2560) (hc1 : cells + 1 ≤ 1040) (hs1 : slots + 6 ≤ 8297) (hl : lv_has ls 8 [(0, .ref b), (1, .ref h0), (2, .ref m0), (3, .ref o0), (4, .int (nI a))])
    (kk : ∀ (f' g' : Nat → Int64) (u' : mS) (H : Heap) (locs : List Loc) (ls : Array Slot), gBs f' → u'.2.1 = f' → va_P D vwCl (wA h0 h1 o0 m0 m1 m2 cJ cO cK cI f' g' u') H → va_D A (wA h0 h1 o0 m0 m1 m2 cJ cO cK cI f' g' u') → va_S A s.heap H locs → lv_has ls 8 [(0, .ref b), (1, .ref h0), (2, .ref m0), (3, .ref o0), (4, .int (nI a))] → W p l e room_1 s m args below meth c H locs (cells + 1) (slots + 6) Q (F0 m 606 ls [])) :
    W p l e room_1 s m args below meth c H locs cells slots Q (F0 m 483 ls []) := by
  obtain ⟨hx, hb, hml, hown, hts⟩ := id S
  have hs : ∀ w ∈ gws, w ∈ lw_tbl := fun w h => gws_tbl h
  refine lv_aload_n hx hb dL_law_483 rfl (lv_at hl 1 rfl) ?_
  refine lv_aload_n hx hb dL_law_484 rfl (lv_at hl 0 rfl) ?_
  refine lv_iload hx hb dL_law_485 (lv_at hl 4 rfl) ?_
  refine lv_iconst (v := 1) hx hb dL_law_487 (by decide) ?_
  refine lv_iadd hx hb dL_law_488 ?_
  refine va_sld hx hb hX hbl hbA hS (six (k := 1) (by decide) (by omega) hL) dL_law_489 ?_
  refine lv_aload_n hx hb dL_law_490 rfl (lv_at hl 0 rfl) ?_
  refine lv_iload hx hb dL_law_491 (lv_at hl 4 rfl) ?_
  refine lv_iconst (v := 2) hx hb dL_law_493 (by decide) ?_
  refine lv_iadd hx hb dL_law_494 ?_
  refine va_sld hx hb hX hbl hbA hS (six (k := 2) (by decide) (by omega) hL) dL_law_495 ?_
  refine lv_aload_n hx hb dL_law_496 rfl (lv_at hl 3 rfl) ?_
  refine g_callL S hs (tL_print l hnt t D h0 h1 o0 cJ cO f g (xs ((nI a) + (1 : Int32)).toNatClampNeg) (xs ((nI a) + (2 : Int32)).toNatClampNeg)) ml_L_72 st_yL_print in_L cd_yL_print hd_yL_print ⟨by decide, by decide⟩ hE hS hA hP hK hD hl.1 rfl (Nat.le_of_ble_eq_true rfl) ⟨by show cells + 1 ≤ 1040; omega, by show slots + 6 ≤ 8297; omega⟩ dL_law_497 (fun k9 f9 g9 H locs hres hP hD hS => ?_)
  refine lv_istore (lv' := [(5, .int k9), (0, .ref b), (1, .ref h0), (2, .ref m0), (3, .ref o0), (4, .int (nI a))]) hx hb dL_law_500 hl (by decide) rfl (fun ls hl => ?_)
  refine lv_aload_n hx hb dL_law_502 rfl (lv_at hl 3 rfl) ?_
  refine lv_aload_n hx hb dL_law_503 rfl (lv_at hl 1 rfl) ?_
  refine lv_iload hx hb dL_law_504 (lv_at hl 5 rfl) ?_
  refine lv_iconst (v := 1) hx hb dL_law_506 (by decide) ?_
  refine lv_iadd hx hb dL_law_507 ?_
  refine va_sld hx hb hX hbl hbA hS (six (k := 1) (by decide) (by omega) hL) dL_law_508 ?_
  refine lv_aload_n hx hb dL_law_509 rfl (lv_at hl 1 rfl) ?_
  refine lv_iload hx hb dL_law_510 (lv_at hl 5 rfl) ?_
  refine lv_iconst (v := 2) hx hb dL_law_512 (by decide) ?_
  refine lv_iadd hx hb dL_law_513 ?_
  refine va_sld hx hb hX hbl hbA hS (six (k := 2) (by decide) (by omega) hL) dL_law_514 ?_
  refine g_callAi S hs (tX1_print l t D m0 m1 m2 cK cI u (xs ((nI a) + (1 : Int32)).toNatClampNeg) (xs ((nI a) + (2 : Int32)).toNatClampNeg) (fun q => by rw [hu]; exact hB _ (in8 (out_in q)))) rfl ml_L_75 im_yX1_print se_yX1_print cd_yX1_print hd_yX1_print ⟨by decide, by decide⟩ hE hS hA hP hK hD hl.1 rfl (Nat.le_of_ble_eq_true rfl) ⟨by show cells + 1 + 0 ≤ 1040; omega, by show slots + 6 + 0 ≤ 8297; omega⟩ dL_law_515 (fun z9 u9 H locs hz9 hP hD hS => ?_)
  have hag : gAg (jprintL f (xs ((nI a) + (1 : Int32)).toNatClampNeg) (xs ((nI a) + (2 : Int32)).toNatClampNeg)) cod1 f z9.toInt64 u9 := by rw [← hu]; exact ag_print u u9 z9 _ _ (by rw [hu]; exact hB) hz9.1 hz9.2
  obtain ⟨a1, a2, a3, a4⟩ := gRes_k hres hag hB
  refine lv_istore (lv' := [(6, .int z9), (5, .int k9), (0, .ref b), (1, .ref h0), (2, .ref m0), (3, .ref o0), (4, .int (nI a))]) hx hb dL_law_518 hl (by decide) rfl (fun ls hl => ?_)
  refine lv_aload_n hx hb dL_law_520 rfl (lv_at hl 4 rfl) ?_
  refine g_callAi S hs (tX1_thrown l t D m0 m1 m2 cK cI u9) rfl ml_L_53 im_yX1_thrown se_yX1_thrown cd_yX1_thrown hd_yX1_thrown ⟨by decide, by decide⟩ hE hS hA hP hK hD hl.1 rfl (Nat.le_of_ble_eq_true rfl) ⟨by show cells + 1 + 0 ≤ 1040; omega, by show slots + 6 + 0 ≤ 8297; omega⟩ dL_law_521 (fun r9 u8 H locs hr9 hP hD hS => ?_)
  obtain ⟨hr8, hu8⟩ := hr9
  rw [show u8 = u9 from hu8] at hP hD
  rw [hr8]
  have hP : va_P D vwCl (wA h0 h1 o0 m0 m1 m2 cJ cO cK cI f9 g9 u9) H := hP
  have hD : va_D A (wA h0 h1 o0 m0 m1 m2 cJ cO cK cI f9 g9 u9) := hD
  refine lv_iload hx hb dL_law_524 (lv_at hl 1 rfl) ?_
  refine lv_icmp_eq (tgt := 531) hx hb dL_law_526 (by decide) (fun _ => ?_) (fun c_1 => absurd (show (kthrown u9).1 = k9 from a1) c_1)
  refine lv_iload hx hb dL_law_531 (lv_at hl 1 rfl) ?_
  have fin : ∀ (H : Heap) (locs : List Loc), va_P D vwCl (wA h0 h1 o0 m0 m1 m2 cJ cO cK cI f9 g9 u9) H → va_S A s.heap H locs → W p l e room_1 s m args below meth c H locs (cells + 1) (slots + 6) Q (F0 m 548 ls []) := fun H locs hP hS => lv_goto (tgt := 606) hx hb dL_law_548 (by decide) (kk f9 g9 u9 H locs ls a4 a3 hP hD hS (lv_sub hl [2, 3, 4, 5, 6] rfl))
  refine lv_if_ne (tgt := 548) hx hb dL_law_533 (by decide) (fun _ => fin H locs hP hS) (fun c_2 => ?_)
  refine lv_aload_n hx hb dL_law_536 rfl (lv_at hl 5 rfl) ?_
  refine lv_iconst (v := 0) hx hb dL_law_537 (by decide) ?_
  refine va_lald hx hb hK hP 2 1 rfl rfl (by unfold vp_in; decide) dL_law_538 ?_
  refine lv_iload hx hb dL_law_539 (lv_at hl 0 rfl) ?_
  refine lv_i2l hx hb dL_law_541 rfl ?_
  refine g_lc_eq (tgt := 548) hx hb dL_law_542 dL_law_543 (by decide) (fun _ => fin H locs hP hS) (fun c_3 => absurd (by rw [sb_cl0]; exact a2 c_2) c_3)
set_option maxHeartbeats 4000000 in
set_option maxRecDepth 100000 in
theorem lc_average {p : Program} {l : Launch} {e : Env} {s : State} {m : MethodId} {args : Array Value} {below : List Frame} {meth : Method} {c : Code} {H : Heap} {locs : List Loc} {cells slots : Nat} {Q : State → Prop} {ls : Array Slot} {A : Nat → Prop} {t b L a : Nat} {xs : Nat → Int32} {D : va_G} {h0 h1 o0 m0 m1 m2 : Nat} {cJ cO cK cI : ClassId} {f g : Nat → Int64} {u : mS} (hnt : l.stackTraces = false) (S : CallFix p m c code 8 s args lw_tbl RL) (hE : gE t A s s.heap) (hS : va_S A s.heap H locs) (hA : ∀ q, s.heap.size ≤ q → A q) (hP : va_P D vwCl (wA h0 h1 o0 m0 m1 m2 cJ cO cK cI f g u) H) (hK : va_K D vwCl [(cJ, .long), (cO, .long), (cK, .long), (cI, .int)] s) (hD : va_D A (wA h0 h1 o0 m0 m1 m2 cJ cO cK cI f g u)) (hX : va_X b L xs s s.heap) (hbl : b < s.heap.size) (hbA : ¬ A b) (hB : gBs f) (hu : u.2.1 = f) (hi : a + 5 ≤ L) (hL : L ≤ 2560) (hc1 : cells + 1 ≤ 1040) (hs1 : slots + 6 ≤ 8297) (hl : lv_has ls 8 [(0, .ref b), (1, .ref h0), (2, .ref m0), (3, .ref o0), (4, .int (nI a))])
    (kk : ∀ (f' g' : Nat → Int64) (u' : mS) (H : Heap) (locs : List Loc) (ls : Array Slot), gBs f' → u'.2.1 = f' → va_P D vwCl (wA h0 h1 o0 m0 m1 m2 cJ cO cK cI f' g' u') H → va_D A (wA h0 h1 o0 m0 m1 m2 cJ cO cK cI f' g' u') → va_S A s.heap H locs → lv_has ls 8 [(0, .ref b), (1, .ref h0), (2, .ref m0), (3, .ref o0), (4, .int (nI a))] → W p l e room_1 s m args below meth c H locs (cells + 1) (slots + 6) Q (F0 m 606 ls [])) :
    W p l e room_1 s m args below meth c H locs cells slots Q (F0 m 551 ls []) := by
  obtain ⟨hx, hb, hml, hown, hts⟩ := id S
  have hs : ∀ w ∈ gws, w ∈ lw_tbl := fun w h => gws_tbl h
  refine lv_aload_n hx hb dL_law_551 rfl (lv_at hl 1 rfl) ?_
  refine lv_aload_n hx hb dL_law_552 rfl (lv_at hl 0 rfl) ?_
  refine lv_iload hx hb dL_law_553 (lv_at hl 4 rfl) ?_
  refine lv_iconst (v := 1) hx hb dL_law_555 (by decide) ?_
  refine lv_iadd hx hb dL_law_556 ?_
  refine va_sld hx hb hX hbl hbA hS (six (k := 1) (by decide) (by omega) hL) dL_law_557 ?_
  refine lv_aload_n hx hb dL_law_558 rfl (lv_at hl 3 rfl) ?_
  refine g_callL S hs (tL_average l hnt t D h0 h1 o0 cJ cO f g (xs ((nI a) + (1 : Int32)).toNatClampNeg)) ml_L_76 st_yL_average in_L cd_yL_average hd_yL_average ⟨by decide, by decide⟩ hE hS hA hP hK hD hl.1 rfl (Nat.le_of_ble_eq_true rfl) ⟨by show cells + 1 ≤ 1040; omega, by show slots + 6 ≤ 8297; omega⟩ dL_law_559 (fun k9 f9 g9 H locs hres hP hD hS => ?_)
  refine lv_istore (lv' := [(5, .int k9), (0, .ref b), (1, .ref h0), (2, .ref m0), (3, .ref o0), (4, .int (nI a))]) hx hb dL_law_562 hl (by decide) rfl (fun ls hl => ?_)
  refine lv_aload_n hx hb dL_law_564 rfl (lv_at hl 3 rfl) ?_
  refine lv_aload_n hx hb dL_law_565 rfl (lv_at hl 1 rfl) ?_
  refine lv_iload hx hb dL_law_566 (lv_at hl 5 rfl) ?_
  refine lv_iconst (v := 1) hx hb dL_law_568 (by decide) ?_
  refine lv_iadd hx hb dL_law_569 ?_
  refine va_sld hx hb hX hbl hbA hS (six (k := 1) (by decide) (by omega) hL) dL_law_570 ?_
  refine g_callAl S hs (tX1_average l t D m0 m1 m2 cK cI u (xs ((nI a) + (1 : Int32)).toNatClampNeg)) rfl ml_L_78 im_yX1_average se_yX1_average cd_yX1_average hd_yX1_average ⟨by decide, by decide⟩ hE hS hA hP hK hD hl.1 rfl (Nat.le_of_ble_eq_true rfl) ⟨by show cells + 1 + 0 ≤ 1040; omega, by show slots + 6 + 0 ≤ 8297; omega⟩ dL_law_571 (fun z9 u9 H locs hz9 hP hD hS => ?_)
  have hag : gAg (javerage f (xs ((nI a) + (1 : Int32)).toNatClampNeg)) cod2 f z9 u9 := by rw [hz9.1, hz9.2, ← hu]; exact ag_average u (xs ((nI a) + (1 : Int32)).toNatClampNeg) (by rw [hu]; exact hB)
  obtain ⟨a1, a2, a3, a4⟩ := gRes_k hres hag hB
  refine lv_lstore (lv' := [(6, .long z9), (5, .int k9), (0, .ref b), (1, .ref h0), (2, .ref m0), (3, .ref o0), (4, .int (nI a))]) hx hb dL_law_574 hl (by decide) rfl (fun ls hl => ?_)
  refine lv_aload_n hx hb dL_law_576 rfl (lv_at hl 4 rfl) ?_
  refine g_callAi S hs (tX1_thrown l t D m0 m1 m2 cK cI u9) rfl ml_L_53 im_yX1_thrown se_yX1_thrown cd_yX1_thrown hd_yX1_thrown ⟨by decide, by decide⟩ hE hS hA hP hK hD hl.1 rfl (Nat.le_of_ble_eq_true rfl) ⟨by show cells + 1 + 0 ≤ 1040; omega, by show slots + 6 + 0 ≤ 8297; omega⟩ dL_law_577 (fun r9 u8 H locs hr9 hP hD hS => ?_)
  obtain ⟨hr8, hu8⟩ := hr9
  rw [show u8 = u9 from hu8] at hP hD
  rw [hr8]
  have hP : va_P D vwCl (wA h0 h1 o0 m0 m1 m2 cJ cO cK cI f9 g9 u9) H := hP
  have hD : va_D A (wA h0 h1 o0 m0 m1 m2 cJ cO cK cI f9 g9 u9) := hD
  refine lv_iload hx hb dL_law_580 (lv_at hl 1 rfl) ?_
  refine lv_icmp_eq (tgt := 587) hx hb dL_law_582 (by decide) (fun _ => ?_) (fun c_1 => absurd (show (kthrown u9).1 = k9 from a1) c_1)
  refine lv_iload hx hb dL_law_587 (lv_at hl 1 rfl) ?_
  have fin : ∀ (H : Heap) (locs : List Loc), va_P D vwCl (wA h0 h1 o0 m0 m1 m2 cJ cO cK cI f9 g9 u9) H → va_S A s.heap H locs → W p l e room_1 s m args below meth c H locs (cells + 1) (slots + 6) Q (F0 m 603 ls []) := fun H locs hP hS => lv_goto (tgt := 606) hx hb dL_law_603 (by decide) (kk f9 g9 u9 H locs ls a4 a3 hP hD hS (lv_sub hl [2, 3, 4, 5, 6] rfl))
  refine lv_if_ne (tgt := 603) hx hb dL_law_589 (by decide) (fun _ => fin H locs hP hS) (fun c_2 => ?_)
  refine lv_aload_n hx hb dL_law_592 rfl (lv_at hl 5 rfl) ?_
  refine lv_iconst (v := 0) hx hb dL_law_593 (by decide) ?_
  refine va_lald hx hb hK hP 2 1 rfl rfl (by unfold vp_in; decide) dL_law_594 ?_
  refine lv_lload hx hb dL_law_595 (lv_at hl 0 rfl) ?_
  refine g_lc_eq (tgt := 603) hx hb dL_law_597 dL_law_598 (by decide) (fun _ => fin H locs hP hS) (fun c_3 => absurd (by rw [sb_cl0]; exact a2 c_2) c_3)
