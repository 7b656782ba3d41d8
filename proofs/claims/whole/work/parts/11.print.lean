/-! ===== the reference's print ===== -/
theorem lN_lit10000 : (10000 : Int64) = lN 10000 := by decide
theorem lN_lit9 : (9 : Int64) = lN 9 := by decide
theorem lN_lit10 : (10 : Int64) = lN 10 := by decide
theorem lN_lit48 : (48 : Int64) = lN 48 := by decide
theorem lN_lit0 : (0 : Int64) = lN 0 := by decide
theorem lN_lit1000 : (1000 : Int64) = lN 1000 := by decide
theorem lN_lit1 : (1 : Int64) = lN 1 := by decide
theorem p10_pos (k : Nat) : 0 < 10 ^ k := Nat.pow_pos (by decide)
theorem p10_le {a b : Nat} (h : a ≤ b) : 10 ^ a ≤ 10 ^ b := Nat.pow_le_pow_right (by decide) h
theorem p10_lt {k : Nat} (h : k ≤ 12) : 10 ^ k < 2 ^ 63 := Nat.lt_of_le_of_lt (p10_le h) (by decide)
theorem lN_ne0 {n : Nat} (h0 : 0 < n) (h : n < 2 ^ 63) : ¬ lN n = 0 := by
  rw [lN_lit0, pk_lEQ h (by decide)]
  omega
/-- 10 to the (k - 1), 0 for k = 0 -/
def kpw : Nat → Nat
  | 0 => 0
  | k + 1 => 10 ^ k
theorem kpw_div (k : Nat) : 10 ^ k / 10 = kpw k := by
  cases k with
  | zero => rfl
  | succ k => rw [Nat.pow_succ]; exact Nat.mul_div_cancel _ (by decide)
theorem kpw_pos {k : Nat} (h : 0 < k) : 0 < kpw k := by
  cases k with
  | zero => omega
  | succ k => exact p10_pos k
section KP
variable {p : Program} {l : Launch} {e : Env} {R : Room} {s : State} {m : MethodId} {args : Array Value} {below : List Frame} {meth : Method} {c : Code} {H : Heap} {locs : List Loc} {cells slots : Nat} {Q : State → Prop}
variable {D : va_G} {m0 m1 m2 : Nat} {cJ cI : ClassId} {f : Nat → Int64} {A : Nat → Prop} {U w n0 : Nat} {a i : Int32} {T : Nat → Int32}
set_option maxHeartbeats 4000000 in
set_option maxRecDepth 100000 in
theorem kp1 (S : CallFix p m c cX1_print 12 s args (Cond.code yX1_print cX1_print 12 (some .int) :: gws) RX1) (hU : U < 2 ^ 62) (hw : w ≤ 11) (hwA : ∀ k, k + 1 < w → 10 ^ (k + 1) ≤ U / 10000) (hwB : U / 10000 < 10 ^ w) {v : Int32}
    (kk : ∀ ls : Array Slot, lv_has ls 12 [(6, .long (lN (10 ^ (w - 1)))), (3, .int v), (4, .long (lN U)), (0, .ref m0), (1, .int a), (2, .int i)] → W p l e R s m args below meth c H locs cells slots Q (F0 m 88 ls [])) :
    ∀ (j k : Nat) (ls : Array Slot), k + 1 + j = w → lv_has ls 12 [(6, .long (lN (10 ^ k))), (3, .int v), (4, .long (lN U)), (0, .ref m0), (1, .int a), (2, .int i)] → W p l e R s m args below meth c H locs cells slots Q (F0 m 61 ls []) := by
  obtain ⟨hx, hb, hml, hown, hts⟩ := id S
  have hs : ∀ w ∈ gws, w ∈ Cond.code yX1_print cX1_print 12 (some .int) :: gws := fun w h => List.mem_cons_of_mem _ h
  intro j
  induction j with
  | zero =>
    intro k ls hk hl
    refine lv_lload hx hb dX1_print_61 (lv_at hl 2 rfl) ?_
    refine lv_ldc2 hx hb hown (hts _ (hs _ kl_X1_33)) dX1_print_63 ?_
    refine lv_ldiv hx hb dX1_print_66 (by decide) ?_
    refine lv_lload hx hb dX1_print_67 (lv_at hl 0 rfl) ?_
    refine lv_ldiv hx hb dX1_print_69 (lN_ne0 (p10_pos k) (p10_lt (by omega))) ?_
    refine lv_ldc2 hx hb hown (hts _ (hs _ kl_X1_60)) dX1_print_70 ?_
    rw [lN_lit10000, pk_lDiv (by omega) (by decide) (by decide), pk_lDiv (by omega) (p10_pos k) (p10_lt (by omega)), lN_lit9]
    refine g_lc_le (tgt := 88) hx hb dX1_print_73 dX1_print_74 (by decide) (fun c_1 => ?_) (fun c_1 => ?_)
    · refine kk ls ?_
      rw [show w - 1 = k from by omega]
      exact hl
    · exfalso
      refine c_1 ((pk_lLE (Nat.lt_of_le_of_lt (Nat.div_le_self _ _) (by omega)) (by decide)).mpr ?_)
      have h2 : U / 10000 / 10 ^ k < 10 := Nat.div_lt_of_lt_mul (by rw [← Nat.pow_succ]; rw [show k.succ = w from by omega]; exact hwB)
      omega
  | succ j ih =>
    intro k ls hk hl
    refine lv_lload hx hb dX1_print_61 (lv_at hl 2 rfl) ?_
    refine lv_ldc2 hx hb hown (hts _ (hs _ kl_X1_33)) dX1_print_63 ?_
    refine lv_ldiv hx hb dX1_print_66 (by decide) ?_
    refine lv_lload hx hb dX1_print_67 (lv_at hl 0 rfl) ?_
    refine lv_ldiv hx hb dX1_print_69 (lN_ne0 (p10_pos k) (p10_lt (by omega))) ?_
    refine lv_ldc2 hx hb hown (hts _ (hs _ kl_X1_60)) dX1_print_70 ?_
    rw [lN_lit10000, pk_lDiv (by omega) (by decide) (by decide), pk_lDiv (by omega) (p10_pos k) (p10_lt (by omega)), lN_lit9]
    refine g_lc_le (tgt := 88) hx hb dX1_print_73 dX1_print_74 (by decide) (fun c_1 => ?_) (fun c_1 => ?_)
    · exfalso
      rw [pk_lLE (Nat.lt_of_le_of_lt (Nat.div_le_self _ _) (by omega)) (by decide)] at c_1
      have h1 := hwA k (by omega)
      have h2 : 10 ≤ U / 10000 / 10 ^ k := (Nat.le_div_iff_mul_le (p10_pos k)).mpr (by rw [Nat.pow_succ, Nat.mul_comm] at h1; exact h1)
      omega
    · refine lv_lload hx hb dX1_print_77 (lv_at hl 0 rfl) ?_
      refine lv_ldc2 hx hb hown (hts _ (hs _ kl_X1_58)) dX1_print_79 ?_
      refine lv_lmul hx hb dX1_print_82 ?_
      rw [lN_lit10, lN_mul, ← Nat.pow_succ]
      refine lv_lstore (lv' := [(6, .long (lN (10 ^ (k + 1)))), (3, .int v), (4, .long (lN U)), (0, .ref m0), (1, .int a), (2, .int i)]) hx hb dX1_print_83 hl (by decide) rfl (fun ls hl => ?_)
      refine lv_goto (tgt := 61) hx hb dX1_print_85 (by decide) ?_
      exact ih (k + 1) ls (by omega) hl
set_option maxHeartbeats 4000000 in
set_option maxRecDepth 100000 in
theorem kp2 (S : CallFix p m c cX1_print 12 s args (Cond.code yX1_print cX1_print 12 (some .int) :: gws) RX1) (hK : va_K D vwCl [(cJ, .long), (cI, .int)] s) (hU : U < 2 ^ 62) (hw : w ≤ 11) (hn0 : n0 ≤ 1) (hT : ∀ d, d < w → T (n0 + d) = nI (48 + U / 10000 / 10 ^ (w - 1 - d) % 10))
    (kk : ∀ (g : Nat → Int32) (H : Heap) (locs : List Loc) (ls : Array Slot), (∀ q, q < n0 + w → g q = T q) → va_P D vwCl (wM m0 m1 m2 cJ cI (0, f, g)) H → va_D A (wM m0 m1 m2 cJ cI (0, f, g)) → va_S A s.heap H locs → lv_has ls 12 [(3, .int (nI (n0 + w))), (4, .long (lN U)), (0, .ref m0), (1, .int a), (2, .int i)] → W p l e R s m args below meth c H locs cells slots Q (F0 m 133 ls [])) :
    ∀ (k : Nat) (g : Nat → Int32) (H : Heap) (locs : List Loc) (ls : Array Slot), k ≤ w → (∀ q, q < n0 + (w - k) → g q = T q) → va_P D vwCl (wM m0 m1 m2 cJ cI (0, f, g)) H → va_D A (wM m0 m1 m2 cJ cI (0, f, g)) → va_S A s.heap H locs → lv_has ls 12 [(6, .long (lN (kpw k))), (3, .int (nI (n0 + (w - k)))), (4, .long (lN U)), (0, .ref m0), (1, .int a), (2, .int i)] → W p l e R s m args below meth c H locs cells slots Q (F0 m 88 ls []) := by
  obtain ⟨hx, hb, hml, hown, hts⟩ := id S
  have hs : ∀ w ∈ gws, w ∈ Cond.code yX1_print cX1_print 12 (some .int) :: gws := fun w h => List.mem_cons_of_mem _ h
  intro k
  induction k with
  | zero =>
    intro g H locs ls hk hg hP hD hS hl
    refine lv_lload hx hb dX1_print_88 (lv_at hl 0 rfl) ?_
    refine lv_lconst (v := 0) hx hb dX1_print_90 (by decide) ?_
    refine g_lc_le (tgt := 133) hx hb dX1_print_91 dX1_print_92 (by decide) (fun c_1 => ?_) (fun c_1 => absurd (by decide) c_1)
    exact kk g H locs ls (by simpa using hg) hP hD hS (lv_sub hl [1, 2, 3, 4, 5] rfl)
  | succ k ih =>
    intro g H locs ls hk hg hP hD hS hl
    have hkp : kpw (k + 1) = 10 ^ k := rfl
    rw [hkp] at hl
    have hlt : 10 ^ k < 2 ^ 63 := p10_lt (by omega)
    refine lv_lload hx hb dX1_print_88 (lv_at hl 0 rfl) ?_
    refine lv_lconst (v := 0) hx hb dX1_print_90 (by decide) ?_
    refine g_lc_le (tgt := 133) hx hb dX1_print_91 dX1_print_92 (by decide) (fun c_1 => ?_) (fun c_1 => ?_)
    · exfalso
      rw [lN_lit0, pk_lLE hlt (by decide)] at c_1
      have := p10_pos k
      omega
    · refine lv_aload_n hx hb dX1_print_95 rfl (lv_at hl 3 rfl) ?_
      refine va_get (ci := 1) (v := .ref m2) (C := RX1) (T := TX1) (N := 3) hx hb hts (fun w h => hs _ (inX1g w h)) hown hK hP 0 rfl rfl 2 (by decide) (hts _ (hs _ fl_X1_13)) (fun _ h9 => h9) rfl dX1_print_96 ?_
      refine lv_iload_n hx hb dX1_print_99 rfl (lv_at hl 1 rfl) ?_
      refine lv_iinc (lv' := [(3, .int (nI (n0 + (w - (k + 1))) + 1)), (6, .long (lN (10 ^ k))), (4, .long (lN U)), (0, .ref m0), (1, .int a), (2, .int i)]) hx hb dX1_print_100 hl (k := 1) rfl rfl (by decide) rfl (fun ls hl => ?_)
      refine lv_ldc2 hx hb hown (hts _ (hs _ kl_X1_62)) dX1_print_103 ?_
      refine lv_lload hx hb dX1_print_106 (lv_at hl 2 rfl) ?_
      refine lv_ldc2 hx hb hown (hts _ (hs _ kl_X1_33)) dX1_print_108 ?_
      refine lv_ldiv hx hb dX1_print_111 (by decide) ?_
      refine lv_lload hx hb dX1_print_112 (lv_at hl 1 rfl) ?_
      refine lv_ldiv hx hb dX1_print_114 (lN_ne0 (p10_pos k) hlt) ?_
      refine lv_ldc2 hx hb hown (hts _ (hs _ kl_X1_58)) dX1_print_115 ?_
      refine lv_lrem hx hb dX1_print_118 (by decide) ?_
      refine lv_ladd hx hb dX1_print_119 ?_
      rw [lN_lit10000, pk_lDiv (by omega) (by decide) (by decide), pk_lDiv (by omega) (p10_pos k) hlt, lN_lit10, pk_lRem (Nat.lt_of_le_of_lt (Nat.div_le_self _ _) (by omega)) (by decide) (by decide), lN_lit48, lN_add]
      refine lv_l2i hx hb dX1_print_120 (lN_i _) ?_
      have hix : n0 + (w - (k + 1)) < 24 := by omega
      refine va_iast hx hb hK hP hD hS 2 1 rfl rfl (vp_in_nI hix (by decide)) dX1_print_121 (fun H locs hP hD hS => ?_)
      rw [nI_clamp (by omega)] at hP hD
      have hP : va_P D vwCl (wM m0 m1 m2 cJ cI (0, f, upd g (n0 + (w - (k + 1))) (nI (48 + U / 10000 / 10 ^ k % 10)))) H := hP
      have hD : va_D A (wM m0 m1 m2 cJ cI (0, f, upd g (n0 + (w - (k + 1))) (nI (48 + U / 10000 / 10 ^ k % 10)))) := hD
      refine lv_lload hx hb dX1_print_122 (lv_at hl 1 rfl) ?_
      refine lv_ldc2 hx hb hown (hts _ (hs _ kl_X1_58)) dX1_print_124 ?_
      refine lv_ldiv hx hb dX1_print_127 (by decide) ?_
      rw [lN_lit10, pk_lDiv hlt (by decide) (by decide), kpw_div]
      refine lv_lstore (lv' := [(6, .long (lN (kpw k))), (3, .int (nI (n0 + (w - (k + 1))) + 1)), (4, .long (lN U)), (0, .ref m0), (1, .int a), (2, .int i)]) hx hb dX1_print_128 hl (by decide) rfl (fun ls hl => ?_)
      refine lv_goto (tgt := 88) hx hb dX1_print_130 (by decide) ?_
      rw [nI_1, show n0 + (w - (k + 1)) + 1 = n0 + (w - k) from by omega] at hl
      refine ih _ H locs ls (by omega) (fun q hq => ?_) hP hD hS hl
      by_cases hq2 : q = n0 + (w - (k + 1))
      · subst hq2
        rw [pk_us, hT _ (by omega), show w - 1 - (w - (k + 1)) = k from by omega]
      · rw [pk_un hq2]
        exact hg q (by omega)
/-- 10 to the (3 - j), 0 for j = 4 -/
theorem kq_div {j : Nat} (hj : j ≤ 3) : kpw (4 - j) / 10 = kpw (4 - (j + 1)) := by
  rw [show 4 - j = (3 - j) + 1 from by omega, show 4 - (j + 1) = 3 - j from by omega]
  exact kpw_div (3 - j)
set_option maxHeartbeats 4000000 in
set_option maxRecDepth 100000 in
theorem kp3 (S : CallFix p m c cX1_print 12 s args (Cond.code yX1_print cX1_print 12 (some .int) :: gws) RX1) (hK : va_K D vwCl [(cJ, .long), (cI, .int)] s) {F n1 : Nat} (hF : F < 10000) (hn1 : n1 ≤ 13) (hT3 : ∀ j, j < 4 → ¬ F % 10 ^ (4 - j) = 0 → T (n1 + j) = nI (48 + F % 10 ^ (4 - j) / 10 ^ (3 - j)))
    (kk : ∀ (j : Nat) (g : Nat → Int32) (H : Heap) (locs : List Loc) (ls : Array Slot), j ≤ 4 → F % 10 ^ (4 - j) = 0 → (∀ q, q < n1 + j → g q = T q) → va_P D vwCl (wM m0 m1 m2 cJ cI (0, f, g)) H → va_D A (wM m0 m1 m2 cJ cI (0, f, g)) → va_S A s.heap H locs → lv_has ls 12 [(3, .int (nI (n1 + j))), (0, .ref m0), (1, .int a), (2, .int i)] → W p l e R s m args below meth c H locs cells slots Q (F0 m 208 ls [])) :
    ∀ (r j : Nat) (g : Nat → Int32) (H : Heap) (locs : List Loc) (ls : Array Slot), j + r = 4 → (∀ q, q < n1 + j → g q = T q) → va_P D vwCl (wM m0 m1 m2 cJ cI (0, f, g)) H → va_D A (wM m0 m1 m2 cJ cI (0, f, g)) → va_S A s.heap H locs → lv_has ls 12 [(10, .long (lN (kpw (4 - j)))), (8, .long (lN (F % 10 ^ (4 - j)))), (3, .int (nI (n1 + j))), (0, .ref m0), (1, .int a), (2, .int i)] → W p l e R s m args below meth c H locs cells slots Q (F0 m 164 ls []) := by
  obtain ⟨hx, hb, hml, hown, hts⟩ := id S
  have hs : ∀ w ∈ gws, w ∈ Cond.code yX1_print cX1_print 12 (some .int) :: gws := fun w h => List.mem_cons_of_mem _ h
  intro r
  induction r with
  | zero =>
    intro j g H locs ls hj hg hP hD hS hl
    have hj4 : j = 4 := by omega
    subst hj4
    have e1 : F % 10 ^ (4 - 4) = 0 := Nat.mod_one F
    rw [e1] at hl
    refine lv_lload hx hb dX1_print_164 (lv_at hl 1 rfl) ?_
    refine lv_lconst (v := 0) hx hb dX1_print_166 (by decide) ?_
    refine g_lc_le (tgt := 208) hx hb dX1_print_167 dX1_print_168 (by decide) (fun c_1 => ?_) (fun c_1 => absurd (by decide) c_1)
    exact kk 4 g H locs ls (by omega) e1 hg hP hD hS (lv_sub hl [2, 3, 4, 5] rfl)
  | succ r ih =>
    intro j g H locs ls hj hg hP hD hS hl
    have hFlt : F % 10 ^ (4 - j) < 2 ^ 63 := Nat.lt_of_le_of_lt (Nat.mod_le _ _) (by omega)
    refine lv_lload hx hb dX1_print_164 (lv_at hl 1 rfl) ?_
    refine lv_lconst (v := 0) hx hb dX1_print_166 (by decide) ?_
    refine g_lc_le (tgt := 208) hx hb dX1_print_167 dX1_print_168 (by decide) (fun c_1 => ?_) (fun c_1 => ?_)
    · rw [lN_lit0, pk_lLE hFlt (by decide)] at c_1
      exact kk j g H locs ls (by omega) (by omega) hg hP hD hS (lv_sub hl [2, 3, 4, 5] rfl)
    · rw [lN_lit0, pk_lLE hFlt (by decide)] at c_1
      have hkq : kpw (4 - j) = 10 ^ (3 - j) := by rw [show 4 - j = (3 - j) + 1 from by omega]; rfl
      have hq0 : 0 < kpw (4 - j) := kpw_pos (by omega)
      have hqlt : kpw (4 - j) < 2 ^ 63 := by rw [hkq]; exact p10_lt (by omega)
      refine lv_aload_n hx hb dX1_print_171 rfl (lv_at hl 3 rfl) ?_
      refine va_get (ci := 1) (v := .ref m2) (C := RX1) (T := TX1) (N := 3) hx hb hts (fun w h => hs _ (inX1g w h)) hown hK hP 0 rfl rfl 2 (by decide) (hts _ (hs _ fl_X1_13)) (fun _ h9 => h9) rfl dX1_print_172 ?_
      refine lv_iload_n hx hb dX1_print_175 rfl (lv_at hl 2 rfl) ?_
      refine lv_iinc (lv' := [(3, .int (nI (n1 + j) + 1)), (10, .long (lN (kpw (4 - j)))), (8, .long (lN (F % 10 ^ (4 - j)))), (0, .ref m0), (1, .int a), (2, .int i)]) hx hb dX1_print_176 hl (k := 2) rfl rfl (by decide) rfl (fun ls hl => ?_)
      refine lv_ldc2 hx hb hown (hts _ (hs _ kl_X1_62)) dX1_print_179 ?_
      refine lv_lload hx hb dX1_print_182 (lv_at hl 2 rfl) ?_
      refine lv_lload hx hb dX1_print_184 (lv_at hl 1 rfl) ?_
      refine lv_ldiv hx hb dX1_print_186 (lN_ne0 hq0 hqlt) ?_
      refine lv_ladd hx hb dX1_print_187 ?_
      rw [pk_lDiv hFlt hq0 hqlt, lN_lit48, lN_add]
      refine lv_l2i hx hb dX1_print_188 (lN_i _) ?_
      refine va_iast hx hb hK hP hD hS 2 1 rfl rfl (vp_in_nI (by omega) (by decide)) dX1_print_189 (fun H locs hP hD hS => ?_)
      rw [nI_clamp (by omega)] at hP hD
      have hP : va_P D vwCl (wM m0 m1 m2 cJ cI (0, f, upd g (n1 + j) (nI (48 + F % 10 ^ (4 - j) / kpw (4 - j))))) H := hP
      have hD : va_D A (wM m0 m1 m2 cJ cI (0, f, upd g (n1 + j) (nI (48 + F % 10 ^ (4 - j) / kpw (4 - j))))) := hD
      refine lv_lload hx hb dX1_print_190 (lv_at hl 2 rfl) ?_
      refine lv_lload hx hb dX1_print_192 (lv_at hl 1 rfl) ?_
      refine lv_lrem hx hb dX1_print_194 (lN_ne0 hq0 hqlt) ?_
      have e2 : F % 10 ^ (4 - j) % kpw (4 - j) = F % 10 ^ (4 - (j + 1)) := by
        rw [hkq, show 4 - (j + 1) = 3 - j from by omega]
        exact Nat.mod_mod_of_dvd _ (Nat.pow_dvd_pow 10 (by omega))
      rw [pk_lRem hFlt hq0 hqlt, e2]
      refine lv_lstore (lv' := [(8, .long (lN (F % 10 ^ (4 - (j + 1))))), (3, .int (nI (n1 + j) + 1)), (10, .long (lN (kpw (4 - j)))), (0, .ref m0), (1, .int a), (2, .int i)]) hx hb dX1_print_195 hl (by decide) rfl (fun ls hl => ?_)
      refine lv_lload hx hb dX1_print_197 (lv_at hl 2 rfl) ?_
      refine lv_ldc2 hx hb hown (hts _ (hs _ kl_X1_58)) dX1_print_199 ?_
      refine lv_ldiv hx hb dX1_print_202 (by decide) ?_
      rw [lN_lit10, pk_lDiv hqlt (by decide) (by decide), kq_div (by omega)]
      refine lv_lstore (lv' := [(10, .long (lN (kpw (4 - (j + 1))))), (8, .long (lN (F % 10 ^ (4 - (j + 1))))), (3, .int (nI (n1 + j) + 1)), (0, .ref m0), (1, .int a), (2, .int i)]) hx hb dX1_print_203 hl (by decide) rfl (fun ls hl => ?_)
      refine lv_goto (tgt := 164) hx hb dX1_print_205 (by decide) ?_
      rw [nI_1] at hl
      refine ih (j + 1) _ H locs ls (by omega) (fun q hq => ?_) hP hD hS hl
      by_cases hq2 : q = n1 + j
      · subst hq2
        rw [pk_us, hT3 j (by omega) (by omega), hkq]
      · rw [pk_un hq2]
        exact hg q (by omega)
end KP
