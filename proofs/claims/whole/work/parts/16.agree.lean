/-! ===== class and reference agree: set, get, turn, round ===== -/
theorem sgl_self {v : Int64} (h : gNm v) : v = sgl (0 ≤ v) (usz v) := by
  unfold sgl
  by_cases h0 : (0 : Int64) ≤ v
  · rw [if_pos h0]; exact v_pos h0
  · rw [if_neg h0]; exact v_neg h0 h
theorem iae1 : cod1 gIAE = 1 := rfl
theorem iae2 : cod2 gIAE = 1 := by decide
theorem iae3 : cod3 gIAE = 1 := by decide
theorem ae2 : cod2 gAE = 2 := by decide
theorem ae3 : cod3 gAE = 3 := by decide
theorem uoe3 : cod3 gUOE = 2 := by decide
theorem ag_set (u : mS) (r : Int32) (n : Int64) (hB : gBs u.2.1) : gAg (jset u.2.1 r n) cod1 u.2.1 (kset u r n).1 (kset u r n).2 := by
  unfold jset kset
  by_cases h1 : kout r = 0
  · rw [if_pos h1, if_neg (fun q => (reg_out r).mp q h1)]
    have e1 : (-900000000000000 : Int64).toInt = -900000000000000 := by decide
    have e2 : (900000000000000 : Int64).toInt = 900000000000000 := by decide
    by_cases h2 : gBd n
    · have h3 : ¬ n < (-900000000000000 : Int64) := by rw [Int64.lt_iff_toInt_lt, e1]; have := h2.1; omega
      have h4 : n ≤ (900000000000000 : Int64) := by rw [Int64.le_iff_toInt_le, e2]; exact h2.2
      rw [if_neg (fun q => (isNum_iff n).mp q h2), if_neg h3, if_pos h4]
      exact Or.inl ⟨_, _, rfl, rfl, rfl, rfl, gBs_upd hB h2⟩
    · rw [if_pos ((isNum_iff n).mpr h2)]
      by_cases h3 : n < (-900000000000000 : Int64)
      · rw [if_pos h3]; exact gAg_fail iae1 (by decide)
      · have h4 : ¬ n ≤ (900000000000000 : Int64) := by
          rw [Int64.lt_iff_toInt_lt, e1] at h3
          rw [Int64.le_iff_toInt_le, e2]
          exact fun q => h2 ⟨by omega, q⟩
        rw [if_neg h3, if_neg h4]; exact gAg_fail iae1 (by decide)
  · rw [if_neg h1, if_pos ((reg_out r).mpr h1)]; exact gAg_fail iae1 (by decide)
theorem ag_get (u : mS) (r : Int32) (hB : gBs u.2.1) : gAg (jget u.2.1 r) cod1 u.2.1 (kget u r).1 (kget u r).2 := by
  unfold jget kget
  by_cases h1 : kout r = 0
  · rw [if_pos h1, if_neg (fun q => (reg_out r).mp q h1)]
    exact Or.inl ⟨_, _, rfl, rfl, rfl, rfl, hB⟩
  · rw [if_neg h1, if_pos ((reg_out r).mpr h1)]; exact gAg_fail iae1 (by decide)
theorem msb_neg (x : Int64) : x.toBitVec.msb = decide (x.toInt < 0) := by
  rw [BitVec.msb_eq_toInt]
  rfl
theorem xor_0 (x y : Int64) : (0 : Int64) ≤ x ^^^ y ↔ ((0 : Int64) ≤ x ↔ (0 : Int64) ≤ y) := by
  have h1 := msb_neg x
  have h2 := msb_neg y
  have h3 := msb_neg (x ^^^ y)
  rw [Int64.toBitVec_xor, BitVec.msb_xor, h1, h2] at h3
  rw [le0, le0, le0]
  by_cases a : x.toInt < 0 <;> by_cases b : y.toInt < 0 <;> by_cases c : (x ^^^ y).toInt < 0 <;> simp [a, b, c] at h3 <;> omega
theorem div_sg {x y : Int64} (hx : gNm x) (hy : gNm y) (h0 : ¬ y = 0) : (x / y).toInt = if (0 ≤ x.toInt ↔ 0 ≤ y.toInt) then ((usz x / usz y : Nat) : Int) else -((usz x / usz y : Nat) : Int) := by
  have h1 := usz_lt hx
  have h2 := usz_lt hy
  have h5 : usz x / usz y ≤ usz x := Nat.div_le_self _ _
  rw [Int64.toInt_div]
  have ex : x.toInt = (usz x : Int) ∨ x.toInt = -(usz x : Int) := by unfold usz; omega
  have ey : y.toInt = (usz y : Int) ∨ y.toInt = -(usz y : Int) := by unfold usz; omega
  have key : (x.toInt.tdiv y.toInt) = if (0 ≤ x.toInt ↔ 0 ≤ y.toInt) then ((usz x / usz y : Nat) : Int) else -((usz x / usz y : Nat) : Int) := by
    have hy0 := usz_0 h0
    rcases Int.le_total 0 x.toInt with sx | sx <;> rcases Int.le_total 0 y.toInt with sy | sy
    · rw [if_pos ⟨fun _ => sy, fun _ => sx⟩, show x.toInt = (usz x : Int) by unfold usz; omega, show y.toInt = (usz y : Int) by unfold usz; omega]
      rfl
    · have sy' : ¬ 0 ≤ y.toInt := by unfold usz at hy0; omega
      rw [if_neg (fun q => sy' (q.mp sx)), show x.toInt = (usz x : Int) by unfold usz; omega, show y.toInt = -(usz y : Int) by unfold usz; omega, Int.tdiv_neg]
      rfl
    · by_cases hx0 : x.toInt = 0
      · have hu : usz x = 0 := by unfold usz; omega
        rw [hx0, hu]
        simp
      · rw [if_neg (fun q => by have := q.mpr sy; omega), show x.toInt = -(usz x : Int) by unfold usz; omega, show y.toInt = (usz y : Int) by unfold usz; omega, Int.neg_tdiv]
        rfl
    · have sy' : ¬ 0 ≤ y.toInt := by unfold usz at hy0; omega
      by_cases hx0 : x.toInt = 0
      · have hu : usz x = 0 := by unfold usz; omega
        rw [hx0, hu]
        simp
      · rw [if_pos ⟨fun q => by omega, fun q => absurd q sy'⟩, show x.toInt = -(usz x : Int) by unfold usz; omega, show y.toInt = -(usz y : Int) by unfold usz; omega, Int.neg_tdiv, Int.tdiv_neg, Int.neg_neg]
        rfl
  rw [key]
  clear key
  generalize usz x / usz y = q9 at h5 ⊢
  by_cases h : (0 ≤ x.toInt ↔ 0 ≤ y.toInt)
  · rw [if_pos h]
    exact Int.bmod_eq_of_le (by omega) (by omega)
  · rw [if_neg h]
    exact Int.bmod_eq_of_le (by omega) (by omega)
theorem toInt_10000 : (10000 : Int64).toInt = 10000 := by decide
theorem nm_10000 : gNm (10000 : Int64) := by unfold gNm; decide
theorem usz_10000 : usz (10000 : Int64) = 10000 := by decide
/-- whole numbers not above: as the reference has them -/
theorem floor_eq {x : Int64} (hx : gBd x) : jfloorDiv x 10000 * (10000 : Int64) = sgl (0 ≤ x) (if (0 : Int64) ≤ x ∨ usz x ≤ usz x / 10000 * 10000 then usz x / 10000 * 10000 else usz x / 10000 * 10000 + 10000) := by
  obtain ⟨b1, b2⟩ := id hx
  have hd := div_sg (gBd_nm hx) nm_10000 (by decide)
  rw [toInt_10000, usz_10000] at hd
  have hU : usz x ≤ 900000000000000 := usz_le hx
  have hU' : usz x = x.toInt.natAbs := rfl
  unfold jfloorDiv
  have hxor := xor_0 x 10000
  have h10 : (0 : Int64) ≤ 10000 := by decide
  by_cases h0 : (0 : Int64) ≤ x
  · rw [if_pos (hxor.mpr ⟨fun _ => h10, fun _ => h0⟩), if_pos (Or.inl h0), sgl, if_pos h0]
    rw [le0] at h0
    rw [if_pos ⟨fun _ => by decide, fun _ => h0⟩] at hd
    apply Int64.toInt_inj.mp
    rw [pk_lT (by omega), Int64.toInt_mul, hd, toInt_10000]
    rw [Int.bmod_eq_of_le (by omega) (by omega)]
    omega
  · rw [if_neg (fun q => h0 ((hxor.mp q).mpr h10)), sgl, if_neg h0]
    rw [le0] at h0
    rw [if_neg (fun q => h0 (q.mpr (by decide)))] at hd
    have hm : (x / 10000 * 10000).toInt = -((usz x / 10000 * 10000 : Nat) : Int) := by
      rw [Int64.toInt_mul, hd, toInt_10000]
      rw [Int.bmod_eq_of_le (by omega) (by omega)]
      omega
    by_cases h1 : x / 10000 * 10000 = x
    · rw [if_pos h1, h1]
      rw [h1] at hm
      have h2 : usz x ≤ usz x / 10000 * 10000 := by omega
      rw [if_pos (Or.inr h2)]
      apply Int64.toInt_inj.mp
      rw [neg_lN (by omega)]
      omega
    · have h2 : ¬ ((0 : Int64) ≤ x ∨ usz x ≤ usz x / 10000 * 10000) := by
        rintro (q | q)
        · exact h0 ((le0 x).mp q)
        · exact h1 (Int64.toInt_inj.mp (by rw [hm]; omega))
      rw [if_neg h1, if_neg h2]
      apply Int64.toInt_inj.mp
      have hq1 : (x / 10000 - 1).toInt = -((usz x / 10000 : Nat) : Int) - 1 := by
        rw [Int64.toInt_sub, hd, show (1 : Int64).toInt = 1 from by decide]
        exact Int.bmod_eq_of_le (by omega) (by omega)
      rw [neg_lN (by omega), Int64.toInt_mul, hq1, toInt_10000]
      rw [Int.bmod_eq_of_le (by omega) (by omega)]
      omega
theorem g_op4 {op : Int32} (h1 : ¬ op < 0) (h2 : op ≤ (3 : Int32)) : op = 0 ∨ op = 1 ∨ op = 2 ∨ op = 3 := by
  obtain ⟨j, hj, rfl⟩ := nI_of2 (M := 3) (n := 3) rfl h1 h2
  have key : ∀ j, j < 4 → nI j = 0 ∨ nI j = 1 ∨ nI j = 2 ∨ nI j = 3 := by decide
  exact key j (by omega)
set_option maxRecDepth 20000 in
theorem ag_turn (u : mS) (r op a : Int32) (hB : gBs u.2.1) : gAg (jturn u.2.1 r op a) cod2 u.2.1 (kturn u r op a).1 (kturn u r op a).2 := by
  unfold jturn kturn
  by_cases h1 : kout r = 0
  · rw [if_pos h1, if_neg (fun q => (reg_out r).mp q h1)]
    by_cases h2 : kout a = 0
    · rw [if_neg (fun q => (reg_out a).mp q h2)]
      by_cases h3 : op < 0
      · rw [if_pos h3, if_pos h3]; exact gAg_fail iae2 (by decide)
      · rw [if_neg h3, if_neg h3]
        by_cases h4 : op ≤ (3 : Int32)
        · rw [if_pos h4, if_neg (Int32.not_lt.mpr h4), if_pos h2]
          have hx : gBd (u.2.1 a.toNatClampNeg) := hB _ (in8 (out_in h2))
          generalize u.2.1 a.toNatClampNeg = x at hx
          have hU : usz x ≤ 900000000000000 := usz_le hx
          have hn := gBd_nm hx
          rcases g_op4 h3 h4 with rfl | rfl | rfl | rfl
          · -- hundredth
            have e0 : jturned 0 x = jrq x 100 := by rw [jturned, if_pos rfl]
            rw [e0, if_pos rfl, size_eq hn]
            have e1 : (lN (usz x) + (50 : Int64)) / (100 : Int64) = lN ((usz x + 50) / 100) := by
              rw [show (50 : Int64) = lN 50 from by decide, show (100 : Int64) = lN 100 from by decide, lN_add, pk_lDiv (by omega) (by decide) (by decide)]
            rw [e1]
            have e2 : jrq x 100 = sgl (0 ≤ x) ((usz x + 50) / 100) := by
              rw [jrq_eq hn (by unfold gNm; decide) (by decide), show usz (100 : Int64) = 100 from by decide, rqN_100]
              unfold sgl
              have h100 : (0 : Int64) ≤ 100 := by decide
              by_cases q : (0 : Int64) ≤ x <;> simp [q, h100]
            by_cases q : (0 : Int64) ≤ x
            · rw [if_pos q]; exact gAg_put (0 ≤ x) hB (by omega) e2 ⟨fun _ => q, fun _ => rfl⟩ ae2 (by decide)
            · rw [if_neg q]; exact gAg_put (0 ≤ x) hB (by omega) e2 ⟨fun z => absurd z (by decide), fun z => absurd z q⟩ ae2 (by decide)
          · -- floor
            have e0 : jturned 1 x = jfloorDiv x 10000 * 10000 := by rw [jturned, if_neg (by decide), if_pos rfl]
            rw [e0, if_neg (by decide), if_neg (by decide), if_neg (by decide), size_eq hn]
            have e1 : lN (usz x) / (10000 : Int64) * (10000 : Int64) = lN (usz x / 10000 * 10000) := by
              rw [lN_lit10000, pk_lDiv (by omega) (by decide) (by decide), lN_mul]
            have e2 : lN (usz x / 10000 * 10000) + (10000 : Int64) = lN (usz x / 10000 * 10000 + 10000) := by rw [lN_lit10000, lN_add]
            have hF := floor_eq hx
            have hcm := pk_lLE (a := usz x) (b := usz x / 10000 * 10000) (by omega) (by omega)
            rw [e1, e2]
            by_cases q : (0 : Int64) ≤ x
            · rw [if_pos (Or.inl q)] at hF
              rw [if_pos q]; exact gAg_put (0 ≤ x) hB (by omega) hF ⟨fun _ => q, fun _ => rfl⟩ ae2 (by decide)
            · rw [if_neg q]
              by_cases q2 : usz x ≤ usz x / 10000 * 10000
              · rw [if_pos (Or.inr q2)] at hF
                rw [if_pos (hcm.mpr q2)]; exact gAg_put (0 ≤ x) hB (by omega) hF ⟨fun z => absurd z (by decide), fun z => absurd z q⟩ ae2 (by decide)
              · rw [if_neg (fun z => z.elim q q2)] at hF
                rw [if_neg (fun z => q2 (hcm.mp z))]; exact gAg_put (0 ≤ x) hB (by omega) hF ⟨fun z => absurd z (by decide), fun z => absurd z q⟩ ae2 (by decide)
          · -- size
            have e0 : jturned 2 x = jabs x := by rw [jturned, if_neg (by decide), if_neg (by decide), if_pos rfl]
            rw [e0, if_neg (by decide), if_pos rfl, size_eq hn, jabs_eq hn]
            exact gAg_put True hB (usz_lt hn) (by rw [sgl, if_pos trivial]) ⟨fun _ => trivial, fun _ => rfl⟩ ae2 (by decide)
          · -- turned
            have e0 : jturned 3 x = -x := by rw [jturned, if_neg (by decide), if_neg (by decide), if_neg (by decide)]
            rw [e0, if_neg (by decide), if_neg (by decide), if_pos rfl, size_eq hn]
            have e1 : -x = sgl (x ≤ 0) (usz x) := by
              have r9 := toInt_rng x
              unfold sgl
              by_cases q : x ≤ (0 : Int64)
              · rw [if_pos q]
                rw [Int64.le_iff_toInt_le, Int64.toInt_zero] at q
                apply Int64.toInt_inj.mp
                rw [pk_lT (usz_lt hn), Int64.toInt_neg, Int.bmod_eq_of_le (by unfold gNm at hn; omega) (by unfold gNm at hn; omega)]
                unfold usz; omega
              · rw [if_neg q]
                have q' : (0 : Int64) ≤ x := Int64.le_of_lt (Int64.not_le.mp q)
                rw [← v_pos q']
            by_cases q : x ≤ (0 : Int64)
            · rw [if_pos q]; exact gAg_put (x ≤ 0) hB (usz_lt hn) e1 ⟨fun _ => q, fun _ => rfl⟩ ae2 (by decide)
            · rw [if_neg q]; exact gAg_put (x ≤ 0) hB (usz_lt hn) e1 ⟨fun z => absurd z (by decide), fun z => absurd z q⟩ ae2 (by decide)
        · rw [if_neg h4, if_pos (Int32.not_le.mp h4)]; exact gAg_fail iae2 (by decide)
    · rw [if_pos ((reg_out a).mpr h2)]
      by_cases h3 : op < 0
      · rw [if_pos h3]; exact gAg_fail iae2 (by decide)
      · rw [if_neg h3]
        by_cases h4 : (3 : Int32) < op
        · rw [if_pos h4]; exact gAg_fail iae2 (by decide)
        · rw [if_neg h4, if_neg h2]; exact gAg_fail iae2 (by decide)
  · rw [if_neg h1, if_pos ((reg_out r).mpr h1)]; exact gAg_fail iae2 (by decide)
