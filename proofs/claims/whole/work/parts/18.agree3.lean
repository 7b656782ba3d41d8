/-! ===== class and reference agree: round, average, print ===== -/
theorem gP_lt {j : Nat} (h : j < 14) : 10 ^ j < 2 ^ 62 := Nat.lt_of_le_of_lt (p10_le (show j ≤ 13 by omega)) (by decide)
theorem gP_at {j : Nat} (h : j < 14) : ¬ gP j = 0 := by
  have key : ∀ j, j < 14 → ¬ gP j = 0 := by decide
  exact key j h
set_option maxRecDepth 20000 in
theorem ag_round (u : mS) (r a d : Int32) (hB : gBs u.2.1) : gAg (jround u.2.1 r a d) cod2 u.2.1 (kround u r a d).1 (kround u r a d).2 := by
  unfold jround kround
  by_cases h1 : kout r = 0
  · rw [if_pos h1, if_neg (fun q => (reg_out r).mp q h1)]
    by_cases h2 : kout a = 0
    · rw [if_pos h2, if_neg (fun q => (reg_out a).mp q h2)]
      by_cases h3 : d < (-9 : Int32)
      · rw [if_pos h3, if_pos h3]; exact gAg_fail iae2 (by decide)
      · rw [if_neg h3, if_neg h3]
        by_cases h4 : d ≤ (4 : Int32)
        · rw [if_pos h4, if_pos h4]
          have hx : gBd (u.2.1 a.toNatClampNeg) := hB _ (in8 (out_in h2))
          generalize u.2.1 a.toNatClampNeg = x at hx
          obtain ⟨j, hj, ej⟩ := vp_in_of (g_ixD h3 h4) (by decide)
          rw [ej, nI_clamp (by omega)]
          have hU : usz x ≤ 900000000000000 := usz_le hx
          have hn := gBd_nm hx
          have hp0 := p10_pos j
          have hp1 := gP_lt hj
          have hp2 : 10 ^ j ≤ 10000000000000 := Nat.le_trans (p10_le (show j ≤ 13 by omega)) (by decide)
          have hm : usz x % 10 ^ j < 10 ^ j := Nat.mod_lt _ hp0
          have hdm : 10 ^ j * (usz x / 10 ^ j) + usz x % 10 ^ j = usz x := Nat.div_add_mod _ _
          have eP : gP j = lN (10 ^ j) := rfl
          have uP : usz (gP j) = 10 ^ j := by rw [eP]; exact usz_lN (by omega)
          have nP : gNm (gP j) := by rw [eP]; exact lN_nm (by omega)
          have zP : (0 : Int64) ≤ gP j := by rw [eP]; exact lN_0le (by omega)
          have q1 : jrq x (gP j) = sgl (0 ≤ x) (rqN (usz x) (10 ^ j)) := by
            rw [jrq_eq hn nP (gP_at hj), uP]
            unfold sgl
            by_cases q : (0 : Int64) ≤ x <;> simp [q, zP]
          have hrq : rqN (usz x) (10 ^ j) * 10 ^ j ≤ 910000000000000 := by
            unfold rqN
            rw [Nat.mul_comm] at hdm
            split
            · omega
            · rw [Nat.add_mul]; omega
          have q2 : jrq x (gP j) * gP j = sgl (0 ≤ x) (rqN (usz x) (10 ^ j) * 10 ^ j) := by
            rw [q1, eP]
            unfold sgl
            by_cases q : (0 : Int64) ≤ x
            · rw [if_pos q, if_pos q, lN_mul]
            · rw [if_neg q, if_neg q, ← lN_mul]
              generalize lN (rqN (usz x) (10 ^ j)) = A
              generalize lN (10 ^ j) = B
              grind
          have es : jX1_size x / gP j * gP j = lN (usz x / 10 ^ j * 10 ^ j) := by rw [size_eq hn, eP, pk_lDiv (by omega) hp0 (by omega), lN_mul]
          have er : jX1_size x - jX1_size x / gP j * gP j = lN (usz x % 10 ^ j) := by rw [size_eq hn, eP, pk_lRem (by omega) hp0 (by omega)]
          have ec : gP j - lN (usz x % 10 ^ j) = lN (10 ^ j - usz x % 10 ^ j) := by rw [eP, lN_sub (Nat.le_of_lt hm)]
          have ea : lN (usz x / 10 ^ j * 10 ^ j) + gP j = lN (usz x / 10 ^ j * 10 ^ j + 10 ^ j) := by rw [eP, lN_add]
          have hc := pk_lLT (a := usz x % 10 ^ j) (b := 10 ^ j - usz x % 10 ^ j) (by omega) (by omega)
          rw [er, es, ec, ea]
          by_cases c : usz x % 10 ^ j < 10 ^ j - usz x % 10 ^ j
          · have e9 : rqN (usz x) (10 ^ j) * 10 ^ j = usz x / 10 ^ j * 10 ^ j := by rw [rqN, if_pos c]
            rw [e9] at q2 hrq
            rw [if_pos (hc.mpr c)]
            by_cases q : (0 : Int64) ≤ x
            · rw [if_pos q]; exact gAg_put (0 ≤ x) hB (by omega) q2 ⟨fun _ => q, fun _ => rfl⟩ ae2 (by decide)
            · rw [if_neg q]; exact gAg_put (0 ≤ x) hB (by omega) q2 ⟨fun z => absurd z (by decide), fun z => absurd z q⟩ ae2 (by decide)
          · have e9 : rqN (usz x) (10 ^ j) * 10 ^ j = usz x / 10 ^ j * 10 ^ j + 10 ^ j := by rw [rqN, if_neg c, Nat.add_mul, Nat.one_mul]
            rw [e9] at q2 hrq
            rw [if_neg (fun z => c (hc.mp z))]
            by_cases q : (0 : Int64) ≤ x
            · rw [if_pos q]; exact gAg_put (0 ≤ x) hB (by omega) q2 ⟨fun _ => q, fun _ => rfl⟩ ae2 (by decide)
            · rw [if_neg q]; exact gAg_put (0 ≤ x) hB (by omega) q2 ⟨fun z => absurd z (by decide), fun z => absurd z q⟩ ae2 (by decide)
        · rw [if_neg h4, if_neg h4]; exact gAg_fail iae2 (by decide)
    · rw [if_neg h2, if_pos ((reg_out a).mpr h2)]; exact gAg_fail iae2 (by decide)
  · rw [if_neg h1, if_pos ((reg_out r).mpr h1)]; exact gAg_fail iae2 (by decide)
/-- the running sums -/
theorem avg_eq {f : Nat → Int64} {N : Nat} (hB : gBs f) (hN : N ≤ 8) : ∀ i k v, gBd v → (∃ w, gBd w ∧ javgF f N i k v = .inr w ∧ kavgF f N i k v = some w) ∨ (javgF f N i k v = .inl gAE ∧ kavgF f N i k v = none)
  | 0, k, v, hv => Or.inl ⟨v, hv, rfl, rfl⟩
  | i + 1, k, v, hv => by
    unfold javgF kavgF
    by_cases hk : k < N
    · rw [if_pos hk, if_pos hk]
      have hf := hB k (by omega)
      have e := add_toInt hv hf
      have hn : gNm (v + f k) := nm_of (by rw [e]; have := hv.1; have := hf.1; omega)
      have hs : jX1_size (v + f k) ≤ (900000000000000 : Int64) ↔ gBd (v + f k) := by
        rw [size_eq hn, lim900, pk_lLE (usz_lt hn) (by decide)]
        unfold usz gBd
        omega
      by_cases hb : gBd (v + f k)
      · rw [jlim_in hb, jbind_inr, if_pos (hs.mpr hb)]
        exact avg_eq hB hN i (k + 1) (v + f k) hb
      · rw [jlim_out hb, jbind_inl, if_neg (fun q => hb (hs.mp q))]
        exact Or.inr ⟨rfl, rfl⟩
    · rw [if_neg hk, if_neg hk]
      exact Or.inl ⟨v, hv, rfl, rfl⟩
theorem n8_facts : ∀ N, N < 9 → 1 ≤ N → (nI N).toInt64 = lN N ∧ ¬ (nI N).toInt64 = 0 := by decide
theorem ag_average (u : mS) (n : Int32) (hB : gBs u.2.1) : gAg (javerage u.2.1 n) cod2 u.2.1 (kaverage u n).1 (kaverage u n).2 := by
  unfold javerage kaverage
  by_cases h1 : n < (1 : Int32)
  · rw [if_pos h1, if_pos h1]; exact gAg_fail iae2 (by decide)
  · rw [if_neg h1, if_neg h1]
    by_cases h2 : n ≤ (8 : Int32)
    · rw [if_pos h2, if_pos h2]
      obtain ⟨N, hN1, hN8, rfl⟩ := g_n8 h1 h2
      rw [nI_clamp (by omega)]
      rcases avg_eq (f := u.2.1) (N := N) hB hN8 9 0 0 ⟨by decide, by decide⟩ with ⟨w, hw, e1, e2⟩ | ⟨e1, e2⟩
      · obtain ⟨f1, f2⟩ := n8_facts N (by omega) hN1
        have hn := gBd_nm hw
        have hU := usz_le hw
        rw [e1, e2, jbind_inr, kopt_some, f1]
        have q1 : jrq w (lN N) = sgl (0 ≤ w) (rqN (usz w) N) := by
          rw [jrq_eq hn (lN_nm (by omega)) (by rw [← f1]; exact f2), usz_lN (by omega)]
          have zP : (0 : Int64) ≤ lN N := lN_0le (by omega)
          unfold sgl
          by_cases q : (0 : Int64) ≤ w <;> simp [q, zP]
        have q2 : kquotient (jX1_size w) ((10000 : Int64) * lN N) = lN (rqN (usz w) N) := by
          rw [size_eq hn, lN_lit10000, lN_mul, kquot_eq (by omega) (by omega) (by omega), rqN_c 10000 (by decide) (by omega)]
        rw [q1, q2]
        unfold sgl
        by_cases q : (0 : Int64) ≤ w
        · rw [if_pos q, if_pos q]; exact Or.inl ⟨_, _, rfl, rfl, rfl, rfl, hB⟩
        · rw [if_neg q, if_neg q]; exact Or.inl ⟨_, _, rfl, rfl, rfl, rfl, hB⟩
      · rw [e1, e2, jbind_inl, kopt_none]; exact gAg_fail ae2 (by decide)
    · rw [if_neg h2, if_neg h2]; exact gAg_fail iae2 (by decide)
/-- digits, as the class has them -/
theorem digit_eq {n j : Nat} (hn : n < 2 ^ 62) (hj : j < 14) : jdigit (lN n) (nI j) = nI (48 + n / 10 ^ j % 10) := by
  have h1 : n / 10 ^ j ≤ n := Nat.div_le_self _ _
  unfold jdigit
  rw [nI_clamp (by omega), show gP j = lN (10 ^ j) from rfl, pk_lDiv (by omega) (p10_pos j) (by have := gP_lt hj; omega), lN_lit10, pk_lRem (by omega) (by decide) (by decide), lN_i, show (48 : Int32) = nI 48 from by decide, nI_add]
theorem behind_eq {F b : Nat} (hF : F < 10000) (hb : b < 2 ^ 31) : jbehind (lN F) (nI b) = if F = 0 ∨ 4 < b then -1 else if b = 0 then 46 else if F % 10 ^ (5 - b) = 0 then -1 else nI (48 + F / 10 ^ (4 - b) % 10) := by
  have hz : lN F = 0 ↔ F = 0 := by rw [lN_lit0, pk_lEQ (by omega) (by decide)]
  have h4 : (4 : Int32) < nI b ↔ 4 < b := by rw [show (4 : Int32) = nI 4 from by decide, nI_ltI (by omega) hb]
  have h0 : nI b = 0 ↔ b = 0 := by rw [show (0 : Int32) = nI 0 from by decide, nI_eq hb (by omega)]
  unfold jbehind
  by_cases c1 : 4 < b
  · rw [if_pos (h4.mpr c1), if_pos (Or.inr c1)]
  · rw [if_neg (fun q => c1 (h4.mp q))]
    by_cases c2 : F = 0
    · rw [if_pos (Or.inl c2)]
      simp [hz.mpr c2]
    · rw [if_neg (show ¬ (F = 0 ∨ 4 < b) from fun q => q.elim c2 c1)]
      by_cases c3 : b = 0
      · rw [if_pos c3]
        simp [hz, c2, h0.mpr c3]
      · rw [if_neg c3]
        have e1 : (4 : Int32) - nI b = nI (4 - b) := by rw [show (4 : Int32) = nI 4 from by decide, pk_sub (by omega)]
        have e2 : nI (4 - b) + (1 : Int32) = nI (5 - b) := by rw [nI_1, show 4 - b + 1 = 5 - b from by omega]
        have e3 : lN F - lN F / gP (nI (5 - b)).toNatClampNeg * gP (nI (5 - b)).toNatClampNeg = lN (F % 10 ^ (5 - b)) := by
          rw [nI_clamp (by omega), show gP (5 - b) = lN (10 ^ (5 - b)) from rfl, pk_lRem (by omega) (p10_pos _) (by have := gP_lt (show 5 - b < 14 by omega); omega)]
        have hm : F % 10 ^ (5 - b) ≤ F := Nat.mod_le _ _
        have e4 : lN (F % 10 ^ (5 - b)) = 0 ↔ F % 10 ^ (5 - b) = 0 := by rw [lN_lit0, pk_lEQ (by omega) (by decide)]
        rw [e1, e2, e3, digit_eq (by omega) (by omega)]
        by_cases c4 : F % 10 ^ (5 - b) = 0
        · rw [if_neg (fun q => c2 (hz.mp q)), if_neg (fun q => c3 (h0.mp q)), if_pos (e4.mpr c4), if_pos c4]
        · rw [if_neg (fun q => c2 (hz.mp q)), if_neg (fun q => c3 (h0.mp q)), if_neg (fun q => c4 (e4.mp q)), if_neg c4]
theorem byte_eq {U q : Nat} (hU : U ≤ 900000000000000) (hq : q < 2 ^ 31) : jbyte (lN U) (nI q) = kbyte U q := by
  have hd : lN U / (10000 : Int64) = lN (U / 10000) := by rw [lN_lit10000, pk_lDiv (by omega) (by decide) (by decide)]
  have hm : lN U - lN U / (10000 : Int64) * (10000 : Int64) = lN (U % 10000) := by rw [lN_lit10000, pk_lRem (by omega) (by decide) (by decide)]
  obtain ⟨w1, w2, -, -⟩ := kwd_spec (W := U / 10000) (by omega)
  have ew : jwd (lN (U / 10000)) = nI (kwd (U / 10000)) := rfl
  unfold jbyte kbyte
  rw [hm, hd, ew]
  have hc : nI (kwd (U / 10000)) ≤ nI q ↔ kwd (U / 10000) ≤ q := nI_leI (by omega) hq
  by_cases c : q < kwd (U / 10000)
  · rw [if_pos c, if_neg (fun z => by have := hc.mp z; omega)]
    rw [show (1 : Int32) = nI 1 from by decide, pk_sub (by omega), pk_sub (by omega), digit_eq (by omega) (by omega)]
  · rw [if_neg c, if_pos (hc.mpr (by omega)), pk_sub (by omega), behind_eq (by omega) (by omega)]
theorem print_eq {v : Int64} (hv : gBd v) {i : Int32} (hi : (0 : Int32) ≤ i) : (if v < (0 : Int64) then (if i = (0 : Int32) then (45 : Int32) else jbyte (-v) (i - (1 : Int32))) else jbyte v i) = ktext v i.toNatClampNeg := by
  obtain ⟨q, hq, rfl⟩ := nI_of (Int32.not_lt.mpr hi)
  have hU := usz_le hv
  have hn := gBd_nm hv
  rw [nI_clamp hq]
  unfold ktext
  by_cases c : v < (0 : Int64)
  · rw [if_pos c, if_pos c]
    have h0 : nI q = 0 ↔ q = 0 := by rw [show (0 : Int32) = nI 0 from by decide, nI_eq hq (by omega)]
    by_cases c2 : q = 0
    · rw [if_pos c2, if_pos (h0.mpr c2)]
    · rw [if_neg c2, if_neg (fun z => c2 (h0.mp z))]
      have ev : -v = lN (usz v) := by
        have e := v_neg (Int64.not_le.mpr c) hn
        generalize usz v = k at e
        rw [e]
        simp
      rw [ev, show (1 : Int32) = nI 1 from by decide, pk_sub (by omega), byte_eq hU (by omega)]
  · rw [if_neg c, if_neg c]
    have ev : v = lN (usz v) := v_pos (Int64.not_lt.mp c)
    have e2 := byte_eq (q := q) hU hq
    rw [← ev] at e2
    exact e2
theorem ag_print (u u9 : mS) (z9 a i : Int32) (hB : gBs u.2.1) (h1 : u9.2.1 = u.2.1) (h2 : if kout a = 0 ∧ (0 : Int32) ≤ i then z9 = ktext (u.2.1 a.toNatClampNeg) i.toNatClampNeg ∧ u9.1 = 0 else u9.1 = 1) : gAg (jprintL u.2.1 a i) cod1 u.2.1 z9.toInt64 u9 := by
  unfold jprintL jprint
  by_cases c1 : kout a = 0
  · rw [if_neg (fun q => (reg_out a).mp q c1)]
    by_cases c2 : (0 : Int32) ≤ i
    · rw [if_pos ⟨c1, c2⟩] at h2
      have hx : gBd (u.2.1 a.toNatClampNeg) := hB _ (in8 (out_in c1))
      have he := print_eq hx c2
      rw [if_pos c2]
      refine Or.inl ⟨z9.toInt64, u.2.1, ?_, h2.2, rfl, h1, hB⟩
      rw [h2.1, ← he]
      by_cases c3 : u.2.1 a.toNatClampNeg < (0 : Int64)
      · rw [if_pos c3, if_pos c3]
        by_cases c4 : i = (0 : Int32)
        · rw [if_pos c4, if_pos c4]
        · rw [if_neg c4, if_neg c4]
      · rw [if_neg c3, if_neg c3]
    · rw [if_neg (fun q => c2 q.2)] at h2
      rw [if_neg c2]
      exact Or.inr ⟨gIAE, rfl, h2, by decide, h1⟩
  · rw [if_neg (fun q => c1 q.1)] at h2
    rw [if_pos ((reg_out a).mpr c1)]
    exact Or.inr ⟨gIAE, rfl, h2, by decide, h1⟩
