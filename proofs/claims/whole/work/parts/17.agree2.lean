/-! ===== class and reference agree: reckon ===== -/
theorem nm_of {v : Int64} (h1 : -9223372036854775808 < v.toInt) : gNm v := by unfold gNm; omega
theorem add_toInt {x y : Int64} (hx : gBd x) (hy : gBd y) : (x + y).toInt = x.toInt + y.toInt := by
  obtain ⟨a1, a2⟩ := hx
  obtain ⟨b1, b2⟩ := hy
  rw [Int64.toInt_add]
  exact Int.bmod_eq_of_le (by omega) (by omega)
theorem sub_toInt {x y : Int64} (hx : gBd x) (hy : gBd y) : (x - y).toInt = x.toInt - y.toInt := by
  obtain ⟨a1, a2⟩ := hx
  obtain ⟨b1, b2⟩ := hy
  rw [Int64.toInt_sub]
  exact Int.bmod_eq_of_le (by omega) (by omega)
/-- the product of two sizes -/
def prodN (X Y : Nat) : Nat := X / 10000 * Y + (X % 10000 * Y + 5000) / 10000
theorem prod_b1 {X Y : Nat} (hY : Y ≤ 900000000000000) : X % 10000 * Y ≤ 8999100000000000000 := by
  have h1 : X % 10000 ≤ 9999 := by omega
  exact Nat.le_trans (Nat.mul_le_mul h1 hY) (by decide)
theorem prod_b2 {X Y : Nat} (h : X / 10000 = 0 ∨ Y ≤ 900000000000000 / (X / 10000)) : X / 10000 * Y ≤ 900000000000000 := by
  rcases Nat.eq_zero_or_pos (X / 10000) with q | q
  · rw [q]; simp
  · rcases h with h | h
    · rw [h]; simp
    · rw [Nat.mul_comm]
      exact (Nat.le_div_iff_mul_le q).mp h
theorem prod_lt {X Y : Nat} (hY : Y ≤ 900000000000000) (h : X / 10000 = 0 ∨ Y ≤ 900000000000000 / (X / 10000)) : prodN X Y < 2 ^ 62 := by
  have h1 := prod_b1 (X := X) hY
  have h2 := prod_b2 h
  unfold prodN
  generalize X / 10000 * Y = a at h2 ⊢
  generalize X % 10000 * Y = b at h1 ⊢
  omega
theorem kprod_eq {X Y : Nat} (hX : X ≤ 900000000000000) (hY : Y ≤ 900000000000000) : kproduct (lN X) (lN Y) = if X / 10000 = 0 ∨ Y ≤ 900000000000000 / (X / 10000) then lN (prodN X Y) else lN 900000000000001 := by
  have h1 := prod_b1 (X := X) hY
  have hd : lN X / (10000 : Int64) = lN (X / 10000) := by rw [lN_lit10000, pk_lDiv (by omega) (by decide) (by decide)]
  have hm : lN X - lN X / (10000 : Int64) * (10000 : Int64) = lN (X % 10000) := by rw [lN_lit10000, pk_lRem (by omega) (by decide) (by decide)]
  have hv : lN (X / 10000) * lN Y + (lN (X % 10000) * lN Y + (5000 : Int64)) / (10000 : Int64) = lN (prodN X Y) := by
    rw [lN_mul, lN_mul, show (5000 : Int64) = lN 5000 from by decide, lN_add, lN_lit10000, pk_lDiv (by omega) (by decide) (by decide), lN_add]
    rfl
  unfold kproduct
  rw [hm, hd, hv]
  have hz : lN (X / 10000) ≤ 0 ↔ X / 10000 = 0 := by rw [lN_lit0, pk_lLE (by omega) (by decide)]; omega
  by_cases c1 : X / 10000 = 0
  · rw [if_pos (hz.mpr c1), if_pos (Or.inl c1)]
  · rw [if_neg (fun q => c1 (hz.mp q))]
    have hdd : (900000000000000 : Int64) / lN (X / 10000) = lN (900000000000000 / (X / 10000)) := by rw [lim900, pk_lDiv (by decide) (by omega) (by omega)]
    have hq : 900000000000000 / (X / 10000) ≤ 900000000000000 := Nat.div_le_self _ _
    have hc : lN Y ≤ (900000000000000 : Int64) / lN (X / 10000) ↔ Y ≤ 900000000000000 / (X / 10000) := by rw [hdd, pk_lLE (by omega) (by omega)]
    by_cases c2 : Y ≤ 900000000000000 / (X / 10000)
    · rw [if_pos (hc.mpr c2), if_pos (Or.inr c2)]
    · rw [if_neg (fun q => c2 (hc.mp q)), if_neg (fun q => q.elim c1 c2)]
      decide
theorem jprodS_eq {X Y : Nat} (hX : X ≤ 900000000000000) (hY : Y ≤ 900000000000000) : jprodS (lN X) (lN Y) = if X / 10000 = 0 ∨ Y ≤ 900000000000000 / (X / 10000) then .inr (lN (prodN X Y)) else .inl gAE := by
  have h1 := prod_b1 (X := X) hY
  have hd : lN X / (10000 : Int64) = lN (X / 10000) := by rw [lN_lit10000, pk_lDiv (by omega) (by decide) (by decide)]
  have hm : lN X - lN X / (10000 : Int64) * (10000 : Int64) = lN (X % 10000) := by rw [lN_lit10000, pk_lRem (by omega) (by decide) (by decide)]
  have hr : jrq (lN (X % 10000) * lN Y) (10000 : Int64) = lN ((X % 10000 * Y + 5000) / 10000) := by
    rw [lN_mul, jrq_eq (lN_nm (by omega)) nm_10000 (by decide), usz_lN (by omega), usz_10000, rqN_10000, sgl, if_pos]
    exact ⟨fun _ => by decide, fun _ => lN_0le (by omega)⟩
  have hv : lN (X / 10000) * lN Y + jrq (lN (X % 10000) * lN Y) (10000 : Int64) = lN (prodN X Y) := by
    rw [hr, lN_mul, lN_add]
    rfl
  unfold jprodS
  rw [hm, hd, hv]
  have hz : lN (X / 10000) = 0 ↔ X / 10000 = 0 := by rw [lN_lit0, pk_lEQ (by omega) (by decide)]
  by_cases c1 : X / 10000 = 0
  · rw [if_pos (hz.mpr c1), if_pos (Or.inl c1)]
  · rw [if_neg (fun q => c1 (hz.mp q))]
    have hdd : (900000000000000 : Int64) / lN (X / 10000) = lN (900000000000000 / (X / 10000)) := by rw [lim900, pk_lDiv (by decide) (by omega) (by omega)]
    have hq : 900000000000000 / (X / 10000) ≤ 900000000000000 := Nat.div_le_self _ _
    have hc : lN Y ≤ (900000000000000 : Int64) / lN (X / 10000) ↔ Y ≤ 900000000000000 / (X / 10000) := by rw [hdd, pk_lLE (by omega) (by omega)]
    by_cases c2 : Y ≤ 900000000000000 / (X / 10000)
    · rw [if_pos (hc.mpr c2), if_pos (Or.inr c2)]
    · rw [if_neg (fun q => c2 (hc.mp q)), if_neg (fun q => q.elim c1 c2)]
theorem jprod_eq {x y : Int64} (hx : gBd x) (hy : gBd y) : jprod x y = if usz x / 10000 = 0 ∨ usz y ≤ 900000000000000 / (usz x / 10000) then .inr (sgl (0 ≤ x ↔ 0 ≤ y) (prodN (usz x) (usz y))) else .inl gAE := by
  unfold jprod
  rw [jabs_eq (gBd_nm hx), jabs_eq (gBd_nm hy), jprodS_eq (usz_le hx) (usz_le hy)]
  by_cases c : usz x / 10000 = 0 ∨ usz y ≤ 900000000000000 / (usz x / 10000)
  · rw [if_pos c, if_pos c, jbind_inr]
    unfold sgl
    by_cases c2 : (0 : Int64) ≤ x <;> by_cases c3 : (0 : Int64) ≤ y <;> simp [c2, c3]
  · rw [if_neg c, if_neg c, jbind_inl]
theorem mul_lit {x : Int64} (hx : gBd x) : (x * (10000 : Int64)).toInt = x.toInt * 10000 := by
  obtain ⟨a1, a2⟩ := hx
  rw [Int64.toInt_mul, toInt_10000]
  exact Int.bmod_eq_of_le (by omega) (by omega)
/-- the rest with the divisor's sign -/
def restN (x y : Int64) : Nat := if usz x % usz y = 0 ∨ ((0 : Int64) ≤ x ↔ (0 : Int64) ≤ y) then usz x % usz y else usz y - usz x % usz y
theorem mod_eq {x y : Int64} (hx : gBd x) (hy : gBd y) (h0 : ¬ y = 0) : jfloorMod x y = sgl (0 ≤ y) (restN x y) := by
  have hd := div_sg (gBd_nm hx) (gBd_nm hy) h0
  obtain ⟨a1, a2⟩ := id hx
  obtain ⟨b1, b2⟩ := id hy
  have hy0 := usz_0 h0
  have hlt : usz x % usz y < usz y := Nat.mod_lt _ hy0
  have hdm : usz y * (usz x / usz y) + usz x % usz y = usz x := Nat.div_add_mod _ _
  have eX : usz x = x.toInt.natAbs := rfl
  have eY : usz y = y.toInt.natAbs := rfl
  have hux := usz_le hx
  have huy := usz_le hy
  -- the truncated rest
  have hpr : (x / y).toInt * y.toInt = if 0 ≤ x.toInt then ((usz y * (usz x / usz y) : Nat) : Int) else -((usz y * (usz x / usz y) : Nat) : Int) := by
    rw [hd]
    have ey : y.toInt = (usz y : Int) ∨ y.toInt = -(usz y : Int) := by omega
    by_cases s1 : 0 ≤ x.toInt <;> by_cases s2 : 0 ≤ y.toInt
    · rw [if_pos ⟨fun _ => s2, fun _ => s1⟩, if_pos s1, show y.toInt = (usz y : Int) by omega, Int.mul_comm, Int.natCast_mul]
    · rw [if_neg (fun q => s2 (q.mp s1)), if_pos s1, show y.toInt = -(usz y : Int) by omega, Int.neg_mul_neg, Int.mul_comm, Int.natCast_mul]
    · rw [if_neg (fun q => s1 (q.mpr s2)), if_neg s1, show y.toInt = (usz y : Int) by omega, Int.neg_mul, Int.mul_comm, Int.natCast_mul]
    · rw [if_pos ⟨fun q => absurd q s1, fun q => absurd q s2⟩, if_neg s1, show y.toInt = -(usz y : Int) by omega, Int.mul_neg, Int.mul_comm, Int.natCast_mul]
  have hr : (x - x / y * y).toInt = if 0 ≤ x.toInt then ((usz x % usz y : Nat) : Int) else -((usz x % usz y : Nat) : Int) := by
    have hm : (x / y * y).toInt = (x / y).toInt * y.toInt := by
      rw [Int64.toInt_mul, hpr]
      generalize usz y * (usz x / usz y) = k at hdm ⊢
      by_cases s1 : 0 ≤ x.toInt
      · rw [if_pos s1]; exact Int.bmod_eq_of_le (by omega) (by omega)
      · rw [if_neg s1]; exact Int.bmod_eq_of_le (by omega) (by omega)
    rw [Int64.toInt_sub, hm, hpr]
    generalize usz y * (usz x / usz y) = k at hdm ⊢
    generalize usz x % usz y = j at hdm hlt ⊢
    by_cases s1 : 0 ≤ x.toInt
    · rw [if_pos s1, if_pos s1, Int.bmod_eq_of_le (by omega) (by omega)]; omega
    · rw [if_neg s1, if_neg s1, Int.bmod_eq_of_le (by omega) (by omega)]; omega
  have hz : x - x / y * y = 0 ↔ usz x % usz y = 0 := by
    rw [← Int64.toInt_inj, Int64.toInt_zero, hr]
    generalize usz x % usz y = j at hlt ⊢
    by_cases s1 : 0 ≤ x.toInt
    · rw [if_pos s1]; omega
    · rw [if_neg s1]; omega
  have hxor := xor_0 x y
  unfold jfloorMod restN sgl
  have q1 := le0 x
  have q2 := le0 y
  generalize x - x / y * y = w at hr hz ⊢
  generalize usz x % usz y = j at hlt hr hz ⊢
  by_cases c1 : ((0 : Int64) ≤ x ↔ (0 : Int64) ≤ y)
  · rw [if_pos (hxor.mpr c1), if_pos (Or.inr c1)]
    apply Int64.toInt_inj.mp
    by_cases c2 : (0 : Int64) ≤ y
    · rw [if_pos c2, hr, if_pos (q1.mp (c1.mpr c2)), pk_lT (by omega)]
    · rw [if_neg c2, hr, if_neg (fun z => c2 (c1.mp (q1.mpr z))), neg_lN (by omega)]
  · rw [if_neg (fun z => c1 (hxor.mp z))]
    by_cases c3 : j = 0
    · rw [if_pos (hz.mpr c3), if_pos (Or.inl c3)]
      rw [hz.mpr c3, c3]
      by_cases c2 : (0 : Int64) ≤ y
      · rw [if_pos c2]; decide
      · rw [if_neg c2]; decide
    · rw [if_neg (fun z => c3 (hz.mp z)), if_neg (show ¬ (j = 0 ∨ ((0 : Int64) ≤ x ↔ (0 : Int64) ≤ y)) from fun z => z.elim c3 c1)]
      apply Int64.toInt_inj.mp
      rw [Int64.toInt_add, hr]
      by_cases c2 : (0 : Int64) ≤ y
      · have c4 : ¬ 0 ≤ x.toInt := fun z => c1 ⟨fun _ => c2, fun _ => q1.mpr z⟩
        have c5 := q2.mp c2
        rw [if_pos c2, if_neg c4, pk_lT (by omega), Int.bmod_eq_of_le (by omega) (by omega)]
        omega
      · have c4 : 0 ≤ x.toInt := by
          by_cases z : (0 : Int64) ≤ x
          · exact q1.mp z
          · exact absurd ⟨fun h => absurd h z, fun h => absurd h c2⟩ c1
        have c5 : ¬ 0 ≤ y.toInt := fun z => c2 (q2.mpr z)
        rw [if_neg c2, if_pos c4, neg_lN (by omega), Int.bmod_eq_of_le (by omega) (by omega)]
        omega
theorem jrk0 (x y : Int64) : jreckoned 0 x y = .inr (x + y) := by
  unfold jreckoned
  by_cases h : y = 0
  · rw [if_pos h, if_neg (by decide), if_neg (by decide), if_pos rfl]
  · rw [if_neg h, if_pos rfl]
theorem jrk1 (x y : Int64) : jreckoned 1 x y = .inr (x - y) := by
  unfold jreckoned
  by_cases h : y = 0
  · rw [if_pos h, if_neg (by decide), if_neg (by decide), if_neg (by decide), if_pos rfl]
  · rw [if_neg h, if_neg (by decide), if_pos rfl]
theorem jrk2 (x y : Int64) : jreckoned 2 x y = jbind (jprod x y) fun r => .inr r := by
  unfold jreckoned
  by_cases h : y = 0
  · rw [if_pos h, if_neg (by decide), if_neg (by decide), if_neg (by decide), if_neg (by decide), if_pos rfl]
  · rw [if_neg h, if_neg (by decide), if_neg (by decide), if_pos rfl]
theorem jrk3 {x y : Int64} (h : ¬ y = 0) : jreckoned 3 x y = .inr (jrq (x * 10000) y) := by
  unfold jreckoned
  rw [if_neg h, if_neg (by decide), if_neg (by decide), if_neg (by decide), if_pos rfl]
theorem jrk4 {x y : Int64} (h : ¬ y = 0) : jreckoned 4 x y = .inr (jfloorMod x y) := by
  unfold jreckoned
  rw [if_neg h, if_neg (by decide), if_neg (by decide), if_neg (by decide), if_neg (by decide)]
theorem jrk3z {x y : Int64} (h : y = 0) : jreckoned 3 x y = .inl gUOE := by
  unfold jreckoned
  rw [if_pos h, if_pos rfl]
theorem jrk4z {x y : Int64} (h : y = 0) : jreckoned 4 x y = .inl gUOE := by
  unfold jreckoned
  rw [if_pos h, if_neg (by decide), if_pos rfl]
/-- put, with the reference's own sign: 0 for plus -/
theorem gAg_put2 {f : Nat → Int64} {g : Nat → Int32} {r cd : Int32} {x : Int64} {n : Nat} {code : String → Int32} (p : Prop) [Decidable p] (hB : gBs f) (hn : n < 2 ^ 63) (hx : x = sgl p n) (hc : code gAE = cd) (hc0 : ¬ cd = 0) :
    gAg (jbind (jlimited x) fun v => .inr (v, vp_updL f r.toNatClampNeg v)) code f (kput ((0 : Int32), f, g) r (if p then 0 else 1) (lN n) cd).1 (kput ((0 : Int32), f, g) r (if p then 0 else 1) (lN n) cd).2 := by
  refine gAg_put p hB hn hx ?_ hc hc0
  by_cases q : p
  · rw [if_pos q]; exact ⟨fun _ => q, fun _ => rfl⟩
  · rw [if_neg q]; exact ⟨fun z => absurd z (by decide), fun z => absurd z q⟩
/-- what the reference reckons once its arguments are in range -/
def kcore (u : mS) (r op : Int32) (x y : Int64) : Int64 × mS :=
  if op = 0 then kput ((0 : Int32), u.2.1, u.2.2) r (if 0 ≤ x + y then 0 else 1) (jX1_size (x + y)) 3
  else if op = 1 then kput ((0 : Int32), u.2.1, u.2.2) r (if 0 ≤ x - y then 0 else 1) (jX1_size (x - y)) 3
  else if op = 2 then kput ((0 : Int32), u.2.1, u.2.2) r (if (0 ≤ x ↔ 0 ≤ y) then 0 else 1) (kproduct (jX1_size x) (jX1_size y)) 3
  else if y = 0 then (((kfail ((0 : Int32), u.2.1, u.2.2) 2).1).toInt64, (kfail ((0 : Int32), u.2.1, u.2.2) 2).2)
  else if op = 3 then kput ((0 : Int32), u.2.1, u.2.2) r (if (0 ≤ x ↔ 0 ≤ y) then 0 else 1) (kquotient (jX1_size x) (jX1_size y)) 3
  else kput ((0 : Int32), u.2.1, u.2.2) r (if 0 ≤ y then 0 else 1) (if (jX1_size x - jX1_size x / jX1_size y * jX1_size y) ≤ 0 ∨ (0 ≤ x ↔ 0 ≤ y) then jX1_size x - jX1_size x / jX1_size y * jX1_size y else jX1_size y - (jX1_size x - jX1_size x / jX1_size y * jX1_size y)) 3
set_option maxRecDepth 20000 in
theorem kcore_eq {u : mS} {r op a b : Int32} (h1 : kout r = 0) (h2 : ¬ op < 0) (h3 : ¬ (4 : Int32) < op) (h4 : kout a = 0) (h5 : kout b = 0) : kreckon u r op a b = kcore u r op (u.2.1 a.toNatClampNeg) (u.2.1 b.toNatClampNeg) := by
  unfold kreckon
  rw [if_pos h1, if_neg h2, if_neg h3, if_pos h4, if_pos h5]
  generalize u.2.1 a.toNatClampNeg = x
  generalize u.2.1 b.toNatClampNeg = y
  unfold kcore
  rcases g_op5 h2 (Int32.not_lt.mp h3) with rfl | rfl | rfl | rfl | rfl
  · by_cases c : (0 : Int64) ≤ x + y <;> simp [c]
  · by_cases c : (0 : Int64) ≤ x - y <;> simp [c]
  · by_cases c : (0 : Int64) ≤ x <;> by_cases d : (0 : Int64) ≤ y <;> simp [c, d]
  · by_cases z : y = 0
    · simp [z]
    · by_cases c : (0 : Int64) ≤ x <;> by_cases d : (0 : Int64) ≤ y <;> simp [c, d, z]
  · by_cases z : y = 0
    · simp [z]
    · by_cases c : (0 : Int64) ≤ x <;> by_cases d : (0 : Int64) ≤ y <;> by_cases w : (jX1_size x - jX1_size x / jX1_size y * jX1_size y) ≤ 0 <;> simp [c, d, w, z]
theorem jreckon_bad {f : Nat → Int64} {r op a b : Int32} (h : ¬ kout r = 0 ∨ ¬ kout a = 0 ∨ ¬ kout b = 0 ∨ op < 0 ∨ (4 : Int32) < op) : jreckon f r op a b = .inl gIAE := by
  unfold jreckon
  split
  · rfl
  next h1 =>
    split
    · rfl
    next h2 =>
      split
      · rfl
      next h3 =>
        split
        · rfl
        next h4 =>
          split
          next h5 =>
            exfalso
            rcases h with h | h | h | h | h
            · exact h1 ((reg_out r).mpr h)
            · exact h2 ((reg_out a).mpr h)
            · exact h3 ((reg_out b).mpr h)
            · exact h4 h
            · exact Int32.not_lt.mpr h5 h
          · rfl
theorem kreckon_bad {u : mS} {r op a b : Int32} (h : ¬ kout r = 0 ∨ ¬ kout a = 0 ∨ ¬ kout b = 0 ∨ op < 0 ∨ (4 : Int32) < op) : kreckon u r op a b = (((kfail ((0 : Int32), u.2.1, u.2.2) (1 : Int32)).1).toInt64, (kfail ((0 : Int32), u.2.1, u.2.2) (1 : Int32)).2) := by
  unfold kreckon
  by_cases h1 : kout r = 0
  · rw [if_pos h1]
    by_cases h2 : op < 0
    · rw [if_pos h2]
    · rw [if_neg h2]
      by_cases h3 : (4 : Int32) < op
      · rw [if_pos h3]
      · rw [if_neg h3]
        by_cases h4 : kout a = 0
        · rw [if_pos h4]
          by_cases h5 : kout b = 0
          · exfalso
            rcases h with h | h | h | h | h
            · exact h h1
            · exact h h4
            · exact h h5
            · exact h2 h
            · exact h3 h
          · rw [if_neg h5]
        · rw [if_neg h4]
  · rw [if_neg h1]
set_option maxRecDepth 20000 in
theorem ag_reckon (u : mS) (r op a b : Int32) (hB : gBs u.2.1) : gAg (jreckon u.2.1 r op a b) cod3 u.2.1 (kreckon u r op a b).1 (kreckon u r op a b).2 := by
  by_cases hbad : ¬ kout r = 0 ∨ ¬ kout a = 0 ∨ ¬ kout b = 0 ∨ op < 0 ∨ (4 : Int32) < op
  · rw [jreckon_bad hbad, kreckon_bad hbad]
    exact gAg_fail iae3 (by decide)
  · have h1 : kout r = 0 := Classical.byContradiction fun q => hbad (Or.inl q)
    have h4 : kout a = 0 := Classical.byContradiction fun q => hbad (Or.inr (Or.inl q))
    have h5 : kout b = 0 := Classical.byContradiction fun q => hbad (Or.inr (Or.inr (Or.inl q)))
    have h2 : ¬ op < 0 := fun q => hbad (Or.inr (Or.inr (Or.inr (Or.inl q))))
    have h3 : ¬ (4 : Int32) < op := fun q => hbad (Or.inr (Or.inr (Or.inr (Or.inr q))))
    rw [kcore_eq h1 h2 h3 h4 h5]
    unfold jreckon
    rw [if_neg (fun q => (reg_out r).mp q h1), if_neg (fun q => (reg_out a).mp q h4), if_neg (fun q => (reg_out b).mp q h5), if_neg h2, if_pos (Int32.not_lt.mp h3)]
    have hx : gBd (u.2.1 a.toNatClampNeg) := hB _ (in8 (out_in h4))
    have hy : gBd (u.2.1 b.toNatClampNeg) := hB _ (in8 (out_in h5))
    generalize u.2.1 a.toNatClampNeg = x at hx ⊢
    generalize u.2.1 b.toNatClampNeg = y at hy ⊢
    have nx := gBd_nm hx
    have ny := gBd_nm hy
    have ux := usz_le hx
    have uy := usz_le hy
    unfold kcore
    rcases g_op5 h2 (Int32.not_lt.mp h3) with rfl | rfl | rfl | rfl | rfl
    · have e := add_toInt hx hy
      have hn : gNm (x + y) := nm_of (by rw [e]; have := hx.1; have := hy.1; omega)
      rw [jrk0, jbind_inr, if_pos rfl, size_eq hn]
      exact gAg_put2 (0 ≤ x + y) hB (usz_lt hn) (sgl_self hn) ae3 (by decide)
    · have e := sub_toInt hx hy
      have hn : gNm (x - y) := nm_of (by rw [e]; have := hx.1; have := hy.2; omega)
      rw [jrk1, jbind_inr, if_neg (by decide), if_pos rfl, size_eq hn]
      exact gAg_put2 (0 ≤ x - y) hB (usz_lt hn) (sgl_self hn) ae3 (by decide)
    · rw [jrk2, if_neg (by decide), if_neg (by decide), if_pos rfl, size_eq nx, size_eq ny, kprod_eq ux uy, jprod_eq hx hy]
      by_cases c : usz x / 10000 = 0 ∨ usz y ≤ 900000000000000 / (usz x / 10000)
      · rw [if_pos c, if_pos c, jbind_inr, jbind_inr]
        exact gAg_put2 (0 ≤ x ↔ 0 ≤ y) hB (Nat.lt_trans (prod_lt uy c) (by decide)) rfl ae3 (by decide)
      · rw [if_neg c, if_neg c, jbind_inl, jbind_inl]
        have h9 : ¬ lN 900000000000001 ≤ (900000000000000 : Int64) := by decide
        unfold kput
        rw [if_neg h9]
        exact gAg_fail ae3 (by decide)
    · rw [if_neg (by decide), if_neg (by decide), if_neg (by decide)]
      by_cases z : y = 0
      · rw [jrk3z z, jbind_inl, if_pos z]; exact gAg_fail uoe3 (by decide)
      · have em := mul_lit hx
        have hm : gNm (x * 10000) := nm_of (by rw [em]; have := hx.1; omega)
        have eu : usz (x * 10000) = 10000 * usz x := by unfold usz; rw [em]; omega
        have e0 : (0 : Int64) ≤ x * 10000 ↔ (0 : Int64) ≤ x := by rw [le0, le0, em]; omega
        have hle := rqN_le (10000 * usz x) (usz y)
        rw [jrk3 z, jbind_inr, if_neg z, if_pos rfl, size_eq nx, size_eq ny, kquot_eq (by omega) (usz_0 z) (usz_lt ny)]
        refine gAg_put2 (0 ≤ x ↔ 0 ≤ y) hB (by omega) ?_ ae3 (by decide)
        rw [jrq_eq hm ny z, eu]
        unfold sgl
        by_cases c : (0 : Int64) ≤ x <;> by_cases d : (0 : Int64) ≤ y <;> simp [c, d, e0]
    · rw [if_neg (by decide), if_neg (by decide), if_neg (by decide)]
      by_cases z : y = 0
      · rw [jrk4z z, jbind_inl, if_pos z]; exact gAg_fail uoe3 (by decide)
      · have hy0 := usz_0 z
        have hlt : usz x % usz y < usz y := Nat.mod_lt _ hy0
        have ek : (if (jX1_size x - jX1_size x / jX1_size y * jX1_size y) ≤ 0 ∨ ((0 : Int64) ≤ x ↔ (0 : Int64) ≤ y) then jX1_size x - jX1_size x / jX1_size y * jX1_size y else jX1_size y - (jX1_size x - jX1_size x / jX1_size y * jX1_size y)) = lN (restN x y) := by
          rw [size_eq nx, size_eq ny, pk_lRem (usz_lt nx) hy0 (usz_lt ny), lN_sub (Nat.le_of_lt hlt)]
          have hz : lN (usz x % usz y) ≤ 0 ↔ usz x % usz y = 0 := by rw [lN_lit0, pk_lLE (by omega) (by decide)]; omega
          unfold restN
          by_cases c : usz x % usz y = 0 ∨ ((0 : Int64) ≤ x ↔ (0 : Int64) ≤ y)
          · rw [if_pos c, if_pos (c.imp hz.mpr id)]
          · rw [if_neg c, if_neg (fun q => c (q.imp hz.mp id))]
        rw [jrk4 z, jbind_inr, if_neg z, if_neg (by decide), ek]
        refine gAg_put2 (0 ≤ y) hB ?_ (mod_eq hx hy z) ae3 (by decide)
        unfold restN
        split <;> omega
