/-! ===== longs as natural numbers with a sign ===== -/
/-- no long but the least one is left out -/
def gNm (v : Int64) : Prop := ¬ v.toInt = -9223372036854775808
theorem gBd_nm {v : Int64} (h : gBd v) : gNm v := by
  obtain ⟨h1, h2⟩ := h
  unfold gNm
  omega
theorem toInt_rng (v : Int64) : -9223372036854775808 ≤ v.toInt ∧ v.toInt < 9223372036854775808 := ⟨Int64.le_toInt v, Int64.toInt_lt v⟩
theorem usz_lt {v : Int64} (h : gNm v) : usz v < 2 ^ 63 := by
  have := toInt_rng v
  unfold gNm at h
  unfold usz
  omega
theorem neg_lN {n : Nat} (h : n < 2 ^ 63) : (-lN n).toInt = -(n : Int) := by
  rw [Int64.toInt_neg, pk_lT h]
  exact Int.bmod_eq_of_le (by omega) (by omega)
theorem le0 (v : Int64) : (0 : Int64) ≤ v ↔ 0 ≤ v.toInt := by rw [Int64.le_iff_toInt_le, Int64.toInt_zero]
theorem lt0 (v : Int64) : (0 : Int64) < v ↔ 0 < v.toInt := by rw [Int64.lt_iff_toInt_lt, Int64.toInt_zero]
theorem v_pos {v : Int64} (h : (0 : Int64) ≤ v) : v = lN (usz v) := by
  rw [le0] at h
  have := toInt_rng v
  apply Int64.toInt_inj.mp
  rw [pk_lT (by unfold usz; omega)]
  unfold usz
  omega
theorem v_neg {v : Int64} (h : ¬ (0 : Int64) ≤ v) (hm : gNm v) : v = -lN (usz v) := by
  rw [le0] at h
  have := toInt_rng v
  apply Int64.toInt_inj.mp
  rw [neg_lN (usz_lt hm)]
  unfold usz
  omega
theorem jabs_eq {v : Int64} (hm : gNm v) : jabs v = lN (usz v) := by
  have := toInt_rng v
  unfold jabs
  split
  next h =>
    rw [lt0] at h
    exact v_pos ((le0 v).mpr (by omega))
  next h =>
    rw [lt0] at h
    by_cases h0 : (0 : Int64) ≤ v
    · rw [le0] at h0
      have hv : v.toInt = 0 := by omega
      have hz : v = 0 := Int64.toInt_inj.mp (by rw [hv, Int64.toInt_zero])
      rw [hz]
      decide
    · rw [v_neg h0 hm]
      have e : usz (-lN (usz v)) = usz v := by
        unfold usz
        rw [neg_lN (by have := usz_lt hm; unfold usz at this; exact this)]
        omega
      rw [e]
      simp
theorem size_eq {v : Int64} (hm : gNm v) : jX1_size v = lN (usz v) := by
  unfold jX1_size
  split
  next h => exact v_pos h
  next h =>
    rw [v_neg h hm]
    have e : usz (-lN (usz v)) = usz v := by
      unfold usz
      rw [neg_lN (by have := usz_lt hm; unfold usz at this; exact this)]
      omega
    rw [e]
    simp
theorem usz_lN {n : Nat} (h : n < 2 ^ 63) : usz (lN n) = n := by
  unfold usz
  rw [pk_lT h]
  omega
theorem usz_0 {v : Int64} (h : ¬ v = 0) : 0 < usz v := by
  unfold usz
  rcases Nat.eq_zero_or_pos v.toInt.natAbs with q | q
  · exact absurd (Int64.toInt_inj.mp (by rw [Int64.toInt_zero]; omega)) h
  · exact q
theorem lN_nm {n : Nat} (h : n < 2 ^ 63) : gNm (lN n) := by
  unfold gNm
  rw [pk_lT h]
  omega
theorem lN_0le {n : Nat} (h : n < 2 ^ 63) : (0 : Int64) ≤ lN n := by rw [le0, pk_lT h]; omega
/-- a natural number with a sign -/
def sgl (p : Prop) [Decidable p] (n : Nat) : Int64 := if p then lN n else -lN n
/-- n by d, halves up -/
def rqN (n d : Nat) : Nat := if n % d < d - n % d then n / d else n / d + 1
theorem rqN_le (n d : Nat) : rqN n d ≤ n + 1 := by
  have := Nat.div_le_self n d
  unfold rqN
  split <;> omega
theorem jrq_eq {a b : Int64} (ha : gNm a) (hb : gNm b) (h0 : ¬ b = 0) : jrq a b = sgl (0 ≤ a ↔ 0 ≤ b) (rqN (usz a) (usz b)) := by
  have h1 := usz_lt ha
  have h2 := usz_lt hb
  have h3 := usz_0 h0
  have h4 : usz a % usz b < usz b := Nat.mod_lt _ h3
  have h5 : usz a / usz b ≤ usz a := Nat.div_le_self _ _
  unfold jrq rqN sgl
  rw [jabs_eq ha, jabs_eq hb, pk_lRem h1 h3 h2, lN_sub (Nat.le_of_lt h4), pk_lDiv h1 h3 h2, lN_1]
  have hc := pk_lLT (a := usz a % usz b) (b := usz b - usz a % usz b) (by omega) (by omega)
  by_cases c1 : usz a % usz b < usz b - usz a % usz b
  · rw [if_pos (hc.mpr c1), if_pos c1]
    by_cases c2 : (0 : Int64) ≤ a <;> by_cases c3 : (0 : Int64) ≤ b <;> simp [c2, c3]
  · rw [if_neg (fun q => c1 (hc.mp q)), if_neg c1]
    by_cases c2 : (0 : Int64) ≤ a <;> by_cases c3 : (0 : Int64) ≤ b <;> simp [c2, c3]
theorem kquot_eq {x y : Nat} (hx : 10000 * x < 2 ^ 63) (h0 : 0 < y) (hy : y < 2 ^ 63) : kquotient (lN x) (lN y) = lN (rqN (10000 * x) y) := by
  have h4 : 10000 * x % y < y := Nat.mod_lt _ h0
  unfold kquotient rqN
  rw [lN_lit10000, lN_mul, pk_lRem hx h0 hy, lN_sub (Nat.le_of_lt h4), pk_lDiv hx h0 hy, lN_1]
  have hc := pk_lLT (a := 10000 * x % y) (b := y - 10000 * x % y) (by omega) (by omega)
  by_cases c1 : 10000 * x % y < y - 10000 * x % y
  · rw [if_pos (hc.mpr c1), if_pos c1]
  · rw [if_neg (fun q => c1 (hc.mp q)), if_neg c1]
theorem rqN_c {n d : Nat} (c : Nat) (hc : 0 < c) (hd : 0 < d) : rqN (c * n) (c * d) = rqN n d := by
  have h4 : n % d < d := Nat.mod_lt _ hd
  unfold rqN
  rw [Nat.mul_mod_mul_left, Nat.mul_div_mul_left _ _ hc, ← Nat.mul_sub]
  by_cases c1 : n % d < d - n % d
  · rw [if_pos c1, if_pos ((Nat.mul_lt_mul_left hc).mpr c1)]
  · rw [if_neg c1, if_neg (fun q => c1 ((Nat.mul_lt_mul_left hc).mp q))]
theorem rqN_100 (n : Nat) : rqN n 100 = (n + 50) / 100 := by
  unfold rqN
  split <;> omega
theorem rqN_10000 (n : Nat) : rqN n 10000 = (n + 5000) / 10000 := by
  unfold rqN
  split <;> omega
/-- the limit -/
theorem isNum_iff (v : Int64) : jX0_isNumber v = 0 ↔ ¬ gBd v := by
  have e1 : (-900000000000000 : Int64).toInt = -900000000000000 := by decide
  have e2 : (900000000000000 : Int64).toInt = 900000000000000 := by decide
  unfold jX0_isNumber gBd
  split
  next h => rw [Int64.lt_iff_toInt_lt, e1] at h; simp; omega
  next h =>
    rw [Int64.lt_iff_toInt_lt, e1] at h
    split
    next h2 => rw [Int64.lt_iff_toInt_lt, e2] at h2; simp; omega
    next h2 => rw [Int64.lt_iff_toInt_lt, e2] at h2; simp; omega
theorem jlim_in {v : Int64} (h : gBd v) : jlimited v = .inr v := by
  unfold jlimited
  rw [if_neg (fun q => (isNum_iff v).mp q h)]
theorem jlim_out {v : Int64} (h : ¬ gBd v) : jlimited v = .inl gAE := by
  unfold jlimited
  rw [if_pos ((isNum_iff v).mpr h)]
/-- all registers are in their limits -/
def gBs (f : Nat → Int64) : Prop := ∀ j, j < 8 → gBd (f j)
theorem gBs_upd {f : Nat → Int64} {k : Nat} {v : Int64} (h : gBs f) (hv : gBd v) : gBs (vp_updL f k v) := by
  intro j hj
  by_cases e : j = k
  · subst e; rw [pk_uLs]; exact hv
  · rw [pk_uLn e]; exact h j hj
theorem in8 {r : Int32} (h : vp_in r 8) : r.toNatClampNeg < 8 := Nat.not_le.mp fun q => h (Or.inr q)
theorem lim900 : (900000000000000 : Int64) = lN 900000000000000 := by decide
theorem gBd_sgl {p : Prop} [Decidable p] {n : Nat} (h : n < 2 ^ 63) : gBd (sgl p n) ↔ n ≤ 900000000000000 := by
  unfold gBd sgl
  split
  · rw [pk_lT h]; omega
  · rw [neg_lN h]; omega
/-- the class's answer and the reference's are one -/
def gAg (res : String ⊕ (Int64 × (Nat → Int64))) (code : String → Int32) (f : Nat → Int64) (z : Int64) (u : mS) : Prop :=
  (∃ (v : Int64) (f1 : Nat → Int64), res = .inr (v, f1) ∧ u.1 = 0 ∧ z = v ∧ u.2.1 = f1 ∧ gBs f1) ∨ (∃ E : String, res = .inl E ∧ u.1 = code E ∧ ¬ code E = 0 ∧ u.2.1 = f)
theorem gAg_put {f : Nat → Int64} {g : Nat → Int32} {r mi cd : Int32} {x : Int64} {n : Nat} {code : String → Int32} (p : Prop) [Decidable p] (hB : gBs f) (hn : n < 2 ^ 63) (hx : x = sgl p n) (hmi : mi = 0 ↔ p) (hc : code gAE = cd) (hc0 : ¬ cd = 0) :
    gAg (jbind (jlimited x) fun v => .inr (v, vp_updL f r.toNatClampNeg v)) code f (kput ((0 : Int32), f, g) r mi (lN n) cd).1 (kput ((0 : Int32), f, g) r mi (lN n) cd).2 := by
  by_cases hlim : n ≤ 900000000000000
  · have hbx : gBd x := by rw [hx]; exact (gBd_sgl hn).mpr hlim
    have hc1 : lN n ≤ (900000000000000 : Int64) := by rw [lim900, pk_lLE hn (by decide)]; exact hlim
    refine Or.inl ⟨x, vp_updL f r.toNatClampNeg x, by rw [jlim_in hbx, jbind_inr], ?_⟩
    unfold kput
    rw [if_pos hc1]
    by_cases hm : mi = 0
    · have e : x = lN n := by rw [hx, sgl, if_pos (hmi.mp hm)]
      rw [if_pos hm]
      exact ⟨rfl, by rw [pk_uLs, e], by rw [e], gBs_upd hB hbx⟩
    · have e : x = -lN n := by rw [hx, sgl, if_neg (fun q => hm (hmi.mpr q))]
      rw [if_neg hm]
      exact ⟨rfl, by rw [pk_uLs, e], by rw [e], gBs_upd hB hbx⟩
  · have hbx : ¬ gBd x := by rw [hx]; exact fun q => hlim ((gBd_sgl hn).mp q)
    have hc1 : ¬ lN n ≤ (900000000000000 : Int64) := by rw [lim900, pk_lLE hn (by decide)]; exact hlim
    refine Or.inr ⟨gAE, by rw [jlim_out hbx, jbind_inl], ?_⟩
    unfold kput kfail
    rw [if_neg hc1]
    exact ⟨hc.symm, by rw [hc]; exact hc0, rfl⟩
theorem gAg_fail {f : Nat → Int64} {g : Nat → Int32} {z : Int64} {cd : Int32} {code : String → Int32} {E : String} (hc : code E = cd) (hc0 : ¬ cd = 0) : gAg (.inl E) code f z (kfail ((0 : Int32), f, g) cd).2 :=
  Or.inr ⟨E, rfl, hc.symm, by rw [hc]; exact hc0, rfl⟩
/-- register numbers: both look alike -/
theorem reg_out (r : Int32) : jX0_isRegister r = 0 ↔ ¬ kout r = 0 := by
  unfold jX0_isRegister kout
  by_cases h1 : r < 0
  · simp [h1]
  · rw [if_neg h1, if_neg h1]
    rcases pk_ix r (n := 8) (by decide) with q | q | ⟨j, hj, rfl⟩
    · exact absurd q h1
    · have q' : (8 : Int32) ≤ r := q
      have h2 : ¬ r ≤ (7 : Int32) := fun z => absurd (Int32.le_trans q' z) (by decide)
      simp [q', h2]
    · have key : ∀ j, j < 8 → ¬ (8 : Int32) ≤ nI j ∧ nI j ≤ (7 : Int32) := by decide
      simp [(key j hj).1, (key j hj).2]
