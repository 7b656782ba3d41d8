/-! ===== the reference's print, whole ===== -/
section KT
variable {p : Program} {l : Launch} {e : Env} {R : Room} {s : State} {m : MethodId} {args : Array Value} {below : List Frame} {meth : Method} {c : Code} {H : Heap} {locs : List Loc} {cells slots : Nat} {Q : State → Prop}
variable {D : va_G} {m0 m1 m2 : Nat} {cJ cI : ClassId} {f : Nat → Int64} {A : Nat → Prop} {U w n0 : Nat} {a i : Int32} {T : Nat → Int32}
set_option maxHeartbeats 4000000 in
set_option maxRecDepth 100000 in
theorem ktail (S : CallFix p m c cX1_print 12 s args (Cond.code yX1_print cX1_print 12 (some .int) :: gws) RX1) (hK : va_K D vwCl [(cJ, .long), (cI, .int)] s) (hU : U < 2 ^ 62) (hw1 : 1 ≤ w) (hw : w ≤ 11) (hwA : ∀ k, k + 1 < w → 10 ^ (k + 1) ≤ U / 10000) (hwB : U / 10000 < 10 ^ w) (hn0 : n0 ≤ 1)
    (hT1 : ∀ d, d < w → T (n0 + d) = nI (48 + U / 10000 / 10 ^ (w - 1 - d) % 10)) (hT2 : 0 < U % 10000 → T (n0 + w) = 46)
    (hT3 : 0 < U % 10000 → ∀ j, j < 4 → ¬ U % 10000 % 10 ^ (4 - j) = 0 → T (n0 + w + 1 + j) = nI (48 + U % 10000 % 10 ^ (4 - j) / 10 ^ (3 - j)))
    (hT4 : U % 10000 = 0 → ∀ q, n0 + w ≤ q → T q = -1) (hT5 : 0 < U % 10000 → ∀ j, j ≤ 4 → U % 10000 % 10 ^ (4 - j) = 0 → ∀ q, n0 + w + 1 + j ≤ q → T q = -1)
    {x : Nat} (hi : i = nI x) (hx31 : x < 2 ^ 31)
    (kk : ∀ (g : Nat → Int32) (H : Heap) (locs : List Loc) (ls : Array Slot), va_P D vwCl (wM m0 m1 m2 cJ cI (0, f, g)) H → va_D A (wM m0 m1 m2 cJ cI (0, f, g)) → va_S A s.heap H locs → W p l e R s m args below meth c H locs cells slots Q (F0 m 223 ls [.int (T x)])) :
    ∀ (g : Nat → Int32) (H : Heap) (locs : List Loc) (ls : Array Slot), (∀ q, q < n0 → g q = T q) → va_P D vwCl (wM m0 m1 m2 cJ cI (0, f, g)) H → va_D A (wM m0 m1 m2 cJ cI (0, f, g)) → va_S A s.heap H locs → lv_has ls 12 [(3, .int (nI n0)), (4, .long (lN U)), (0, .ref m0), (1, .int a), (2, .int i)] → W p l e R s m args below meth c H locs cells slots Q (F0 m 58 ls []) := by
  obtain ⟨hx, hb, hml, hown, hts⟩ := id S
  have hs : ∀ w ∈ gws, w ∈ Cond.code yX1_print cX1_print 12 (some .int) :: gws := fun w h => List.mem_cons_of_mem _ h
  -- the end, with n bytes printed
  have fin : ∀ (n : Nat) (g : Nat → Int32) (H : Heap) (locs : List Loc) (ls : Array Slot), n < 24 → (∀ q, q < n → g q = T q) → (∀ q, n ≤ q → T q = -1) → va_P D vwCl (wM m0 m1 m2 cJ cI (0, f, g)) H → va_D A (wM m0 m1 m2 cJ cI (0, f, g)) → va_S A s.heap H locs → lv_has ls 12 [(3, .int (nI n)), (0, .ref m0), (1, .int a), (2, .int i)] → W p l e R s m args below meth c H locs cells slots Q (F0 m 208 ls []) := by
    intro n g H locs ls hn hg hT hP hD hS hl
    subst hi
    refine lv_iload_n hx hb dX1_print_208 rfl (lv_at hl 3 rfl) ?_
    refine lv_iload_n hx hb dX1_print_209 rfl (lv_at hl 0 rfl) ?_
    refine lv_icmp_ge (tgt := 222) hx hb dX1_print_210 (by decide) (fun c_1 => ?_) (fun c_1 => ?_)
    · rw [nI_leI (by omega) hx31] at c_1
      refine lv_iconst (v := (-1)) hx hb dX1_print_222 (by decide) ?_
      have h9 := kk g H locs ls hP hD hS
      rw [hT x c_1] at h9
      exact h9
    · rw [nI_leI (by omega) hx31] at c_1
      refine lv_aload_n hx hb dX1_print_213 rfl (lv_at hl 1 rfl) ?_
      refine va_get (ci := 1) (v := .ref m2) (C := RX1) (T := TX1) (N := 3) hx hb hts (fun w h => hs _ (inX1g w h)) hown hK hP 0 rfl rfl 2 (by decide) (hts _ (hs _ fl_X1_13)) (fun _ h9 => h9) rfl dX1_print_214 ?_
      refine lv_iload_n hx hb dX1_print_217 rfl (lv_at hl 3 rfl) ?_
      refine va_iald hx hb hK hP 2 1 rfl rfl (vp_in_nI (by omega) (by decide)) dX1_print_218 ?_
      refine lv_goto (tgt := 223) hx hb dX1_print_219 (by decide) ?_
      rw [nI_clamp hx31]
      have h9 := kk g H locs ls hP hD hS
      rw [← hg x (by omega)] at h9
      exact h9
  intro g H locs ls hg hP hD hS hl
  refine lv_lconst (v := 1) hx hb dX1_print_58 (by decide) ?_
  refine lv_lstore (lv' := [(6, .long (1 : Int64)), (3, .int (nI n0)), (4, .long (lN U)), (0, .ref m0), (1, .int a), (2, .int i)]) hx hb dX1_print_59 hl (by decide) rfl (fun ls hl => ?_)
  refine kp1 S hU hw hwA hwB (fun ls hl => ?_) (w - 1) 0 ls (by omega) hl
  refine kp2 (T := T) S hK hU hw hn0 hT1 (fun g H locs ls hg hP hD hS hl => ?_) w g H locs ls (Nat.le_refl w) (by rw [Nat.sub_self]; exact hg) hP hD hS (by rw [Nat.sub_self, show kpw w = 10 ^ (w - 1) from by cases w with | zero => omega | succ w => rfl]; exact hl)
  have hFlt : U % 10000 < 10000 := Nat.mod_lt _ (by decide)
  refine lv_lload hx hb dX1_print_133 (lv_at hl 1 rfl) ?_
  refine lv_ldc2 hx hb hown (hts _ (hs _ kl_X1_33)) dX1_print_135 ?_
  refine lv_lrem hx hb dX1_print_138 (by decide) ?_
  rw [lN_lit10000, pk_lRem (by omega) (by decide) (by decide)]
  refine lv_lstore (lv' := [(8, .long (lN (U % 10000))), (3, .int (nI (n0 + w))), (4, .long (lN U)), (0, .ref m0), (1, .int a), (2, .int i)]) hx hb dX1_print_139 hl (by decide) rfl (fun ls hl => ?_)
  refine lv_lload hx hb dX1_print_141 (lv_at hl 0 rfl) ?_
  refine lv_lconst (v := 0) hx hb dX1_print_143 (by decide) ?_
  refine g_lc_le (tgt := 159) hx hb dX1_print_144 dX1_print_145 (by decide) (fun c_1 => ?_) (fun c_1 => ?_)
  · rw [lN_lit0, pk_lLE (by omega) (by decide)] at c_1
    have hF0 : U % 10000 = 0 := by omega
    refine lv_ldc2 hx hb hown (hts _ (hs _ kl_X1_64)) dX1_print_159 ?_
    refine lv_lstore (lv' := [(10, .long (1000 : Int64)), (8, .long (lN (U % 10000))), (3, .int (nI (n0 + w))), (4, .long (lN U)), (0, .ref m0), (1, .int a), (2, .int i)]) hx hb dX1_print_162 hl (by decide) rfl (fun ls hl => ?_)
    refine kp3 (T := T) (F := U % 10000) (n1 := n0 + w) S hK hFlt (by omega) (fun j _ h => absurd (by rw [hF0]; exact Nat.zero_mod _) h) (fun j g H locs ls hj hz hg hP hD hS hl => ?_) 4 0 g H locs ls (by omega) hg hP hD hS (by rw [show U % 10000 % 10 ^ (4 - 0) = U % 10000 from Nat.mod_eq_of_lt hFlt]; exact lv_sub hl [0, 1, 2, 4, 5, 6] rfl)
    refine fin (n0 + w + j) g H locs ls (by omega) hg (fun q hq => hT4 hF0 q (by omega)) hP hD hS hl
  · rw [lN_lit0, pk_lLE (by omega) (by decide)] at c_1
    have hF0 : 0 < U % 10000 := by omega
    refine lv_aload_n hx hb dX1_print_148 rfl (lv_at hl 3 rfl) ?_
    refine va_get (ci := 1) (v := .ref m2) (C := RX1) (T := TX1) (N := 3) hx hb hts (fun w h => hs _ (inX1g w h)) hown hK hP 0 rfl rfl 2 (by decide) (hts _ (hs _ fl_X1_13)) (fun _ h9 => h9) rfl dX1_print_149 ?_
    refine lv_iload_n hx hb dX1_print_152 rfl (lv_at hl 1 rfl) ?_
    refine lv_iinc (lv' := [(3, .int (nI (n0 + w) + 1)), (8, .long (lN (U % 10000))), (4, .long (lN U)), (0, .ref m0), (1, .int a), (2, .int i)]) hx hb dX1_print_153 hl (k := 1) rfl rfl (by decide) rfl (fun ls hl => ?_)
    refine lv_bipush (v := 46) hx hb dX1_print_156 (by decide) ?_
    refine va_iast hx hb hK hP hD hS 2 1 rfl rfl (vp_in_nI (by omega) (by decide)) dX1_print_158 (fun H locs hP hD hS => ?_)
    rw [nI_clamp (by omega)] at hP hD
    have hP : va_P D vwCl (wM m0 m1 m2 cJ cI (0, f, upd g (n0 + w) 46)) H := hP
    have hD : va_D A (wM m0 m1 m2 cJ cI (0, f, upd g (n0 + w) 46)) := hD
    refine lv_ldc2 hx hb hown (hts _ (hs _ kl_X1_64)) dX1_print_159 ?_
    refine lv_lstore (lv' := [(10, .long (1000 : Int64)), (3, .int (nI (n0 + w) + 1)), (8, .long (lN (U % 10000))), (4, .long (lN U)), (0, .ref m0), (1, .int a), (2, .int i)]) hx hb dX1_print_162 hl (by decide) rfl (fun ls hl => ?_)
    rw [nI_1] at hl
    refine kp3 (T := T) (F := U % 10000) (n1 := n0 + w + 1) S hK hFlt (by omega) (fun j hj h => hT3 hF0 j hj h) (fun j g H locs ls hj hz hg hP hD hS hl => ?_) 4 0 _ H locs ls (by omega) (fun q hq => ?_) hP hD hS (by rw [show U % 10000 % 10 ^ (4 - 0) = U % 10000 from Nat.mod_eq_of_lt hFlt]; exact lv_sub hl [0, 2, 1, 4, 5, 6] rfl)
    · exact fin (n0 + w + 1 + j) g H locs ls (by omega) hg (fun q hq => hT5 hF0 j hj hz q hq) hP hD hS hl
    · by_cases hq2 : q = n0 + w
      · subst hq2
        rw [pk_us, hT2 hF0]
      · rw [pk_un hq2]
        exact hg q (by omega)
end KT
/-- how many digits stand before the point -/
def kwd (W : Nat) : Nat := jwdF (lN W) 11 1
theorem jwdF_spec {W : Nat} (hW : W < 2 ^ 63) : ∀ n k, 1 ≤ k → k ≤ 11 → 12 ≤ k + n → (∀ c, 1 ≤ c → c < k → 10 ^ c ≤ W) → jwdF (lN W) n k ≤ 11 ∧ 1 ≤ jwdF (lN W) n k ∧ (∀ c, 1 ≤ c → c < jwdF (lN W) n k → 10 ^ c ≤ W) ∧ (W < 10 ^ jwdF (lN W) n k ∨ jwdF (lN W) n k = 11)
  | 0, k, h1, h2, h3, _ => by omega
  | n + 1, k, h1, h2, h3, h4 => by
    rw [jwdF]
    split
    next h =>
      obtain ⟨ha, hb⟩ := h
      have hb' : 10 ^ k ≤ W := (pk_lLE (p10_lt (by omega)) hW).mp hb
      refine jwdF_spec hW n (k + 1) (by omega) (by omega) (by omega) (fun c hc1 hc2 => ?_)
      by_cases e : c = k
      · rw [e]; exact hb'
      · exact h4 c hc1 (by omega)
    next h =>
      refine ⟨h2, h1, h4, ?_⟩
      by_cases e : k = 11
      · exact Or.inr e
      · left
        rcases Nat.lt_or_ge W (10 ^ k) with q | q
        · exact q
        · exact absurd ⟨by omega, (pk_lLE (p10_lt (by omega)) hW).mpr q⟩ h
theorem kwd_spec {W : Nat} (hW : W < 10 ^ 11) : 1 ≤ kwd W ∧ kwd W ≤ 11 ∧ (∀ k, k + 1 < kwd W → 10 ^ (k + 1) ≤ W) ∧ W < 10 ^ kwd W := by
  obtain ⟨h1, h2, h3, h4⟩ := jwdF_spec (W := W) (Nat.lt_trans hW (by decide)) 11 1 (by omega) (by omega) (by omega) (fun c h1 h2 => by omega)
  refine ⟨h2, h1, fun k hk => h3 (k + 1) (by omega) hk, ?_⟩
  rcases h4 with h | h
  · exact h
  · unfold kwd; rw [h]; exact hW
/-- byte q of a size U, as it is printed -/
def kbyte (U q : Nat) : Int32 :=
  if q < kwd (U / 10000) then nI (48 + U / 10000 / 10 ^ (kwd (U / 10000) - 1 - q) % 10)
  else if U % 10000 = 0 ∨ 4 < q - kwd (U / 10000) then -1
  else if q - kwd (U / 10000) = 0 then 46
  else if U % 10000 % 10 ^ (5 - (q - kwd (U / 10000))) = 0 then -1
  else nI (48 + U % 10000 / 10 ^ (4 - (q - kwd (U / 10000))) % 10)
/-- the size of a long, as a natural number -/
def usz (v : Int64) : Nat := v.toInt.natAbs
/-- byte q of the text of v -/
def ktext (v : Int64) (q : Nat) : Int32 := if v < 0 then (if q = 0 then 45 else kbyte (usz v) (q - 1)) else kbyte (usz v) q
theorem kbyte_1 {U d : Nat} (h : d < kwd (U / 10000)) : kbyte U d = nI (48 + U / 10000 / 10 ^ (kwd (U / 10000) - 1 - d) % 10) := by rw [kbyte, if_pos h]
theorem kbyte_2 {U : Nat} (h : 0 < U % 10000) : kbyte U (kwd (U / 10000)) = 46 := by
  rw [kbyte, if_neg (by omega), if_neg (by omega), if_pos (by omega)]
theorem kbyte_3 {U j : Nat} (h : 0 < U % 10000) (hj : j < 4) (hz : ¬ U % 10000 % 10 ^ (4 - j) = 0) : kbyte U (kwd (U / 10000) + 1 + j) = nI (48 + U % 10000 % 10 ^ (4 - j) / 10 ^ (3 - j)) := by
  have e1 : kwd (U / 10000) + 1 + j - kwd (U / 10000) = j + 1 := by omega
  rw [kbyte, if_neg (by omega), e1, if_neg (by omega), if_neg (by omega), show 5 - (j + 1) = 4 - j from by omega, if_neg hz, show 4 - (j + 1) = 3 - j from by omega]
  have e2 : (10 : Nat) ^ (4 - j) = 10 ^ (3 - j) * 10 := by rw [← Nat.pow_succ]; congr 1; omega
  rw [e2, Nat.mod_mul_right_div_self]
theorem kbyte_4 {U q : Nat} (h : U % 10000 = 0) (hq : kwd (U / 10000) ≤ q) : kbyte U q = -1 := by
  rw [kbyte, if_neg (by omega), if_pos (Or.inl h)]
theorem kbyte_5 {U j q : Nat} (h : 0 < U % 10000) (hj : j ≤ 4) (hz : U % 10000 % 10 ^ (4 - j) = 0) (hq : kwd (U / 10000) + 1 + j ≤ q) : kbyte U q = -1 := by
  rw [kbyte, if_neg (by omega)]
  by_cases hb : U % 10000 = 0 ∨ 4 < q - kwd (U / 10000)
  · rw [if_pos hb]
  · rw [if_neg hb, if_neg (by omega), if_pos]
    exact Nat.mod_eq_zero_of_dvd (Nat.dvd_trans (Nat.pow_dvd_pow 10 (by omega)) (Nat.dvd_of_mod_eq_zero hz))
/-- a register's number is in its limits -/
def gBd (v : Int64) : Prop := -900000000000000 ≤ v.toInt ∧ v.toInt ≤ 900000000000000
theorem size_lN {v : Int64} (h : gBd v) : jX1_size v = lN (usz v) := by
  obtain ⟨h1, h2⟩ := h
  unfold jX1_size usz
  split
  next h0 =>
    rw [Int64.le_iff_toInt_le, Int64.toInt_zero] at h0
    apply Int64.toInt_inj.mp
    rw [pk_lT (by omega)]
    omega
  next h0 =>
    rw [Int64.le_iff_toInt_le, Int64.toInt_zero] at h0
    apply Int64.toInt_inj.mp
    rw [pk_lT (by omega), Int64.toInt_neg]
    rw [Int.bmod_eq_of_le (by omega) (by omega)]
    omega
