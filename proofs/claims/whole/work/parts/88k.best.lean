/-! the best point of a route -/
def cLt (P Q A : Nat → Nat → Nat) (i j i' j' : Nat) : Prop := P i j * Q i' j' < P i' j' * Q i j ∨ (P i j * Q i' j' = P i' j' * Q i j ∧ (i < i' ∨ (i = i' ∧ A i j < A i' j')))
theorem cross_lt {p q p' q' p2 q2 : Nat} (hq : 0 < q) (hq' : 0 < q') (hq2 : 0 < q2) (h1 : p * q' < p' * q) (h2 : p' * q2 ≤ p2 * q') : p * q2 < p2 * q := by
  have e1 : p * q' * q2 < p' * q * q2 := Nat.mul_lt_mul_of_pos_right h1 hq2
  have e2 : p' * q2 * q ≤ p2 * q' * q := Nat.mul_le_mul_right q h2
  have e3 : (p * q2) * q' < (p2 * q) * q' := by
    have a1 : p * q2 * q' = p * q' * q2 := by rw [Nat.mul_assoc, Nat.mul_comm q2, ← Nat.mul_assoc]
    have a2 : p2 * q * q' = p2 * q' * q := by rw [Nat.mul_assoc, Nat.mul_comm q, ← Nat.mul_assoc]
    have a3 : p' * q * q2 = p' * q2 * q := by rw [Nat.mul_assoc, Nat.mul_comm q, ← Nat.mul_assoc]
    omega
  exact Nat.lt_of_mul_lt_mul_right e3
theorem cross_lt' {p q p' q' p2 q2 : Nat} (hq : 0 < q) (hq' : 0 < q') (hq2 : 0 < q2) (h1 : p * q' ≤ p' * q) (h2 : p' * q2 < p2 * q') : p * q2 < p2 * q := by
  have e1 : p * q' * q2 ≤ p' * q * q2 := Nat.mul_le_mul_right q2 h1
  have e2 : p' * q2 * q < p2 * q' * q := Nat.mul_lt_mul_of_pos_right h2 hq
  have e3 : (p * q2) * q' < (p2 * q) * q' := by
    have a1 : p * q2 * q' = p * q' * q2 := by rw [Nat.mul_assoc, Nat.mul_comm q2, ← Nat.mul_assoc]
    have a2 : p2 * q * q' = p2 * q' * q := by rw [Nat.mul_assoc, Nat.mul_comm q, ← Nat.mul_assoc]
    have a3 : p' * q * q2 = p' * q2 * q := by rw [Nat.mul_assoc, Nat.mul_comm q, ← Nat.mul_assoc]
    omega
  exact Nat.lt_of_mul_lt_mul_right e3
theorem cross_eq {p q p' q' p2 q2 : Nat} (hq' : 0 < q') (h1 : p * q' = p' * q) (h2 : p' * q2 = p2 * q') : p * q2 = p2 * q := by
  have e3 : (p * q2) * q' = (p2 * q) * q' := by
    have a1 : p * q2 * q' = p * q' * q2 := by rw [Nat.mul_assoc, Nat.mul_comm q2, ← Nat.mul_assoc]
    have a2 : p2 * q * q' = p2 * q' * q := by rw [Nat.mul_assoc, Nat.mul_comm q, ← Nat.mul_assoc]
    have a3 : p' * q * q2 = p' * q2 * q := by rw [Nat.mul_assoc, Nat.mul_comm q, ← Nat.mul_assoc]
    rw [a1, h1, a3, h2, a2]
  exact Nat.eq_of_mul_eq_mul_right hq' e3
theorem cLt.tr {P Q A : Nat → Nat → Nat} (hQ : ∀ i j, 0 < Q i j) {i j i1 j1 i2 j2 : Nat} (h : cLt P Q A i j i1 j1) (k : cLt P Q A i1 j1 i2 j2) : cLt P Q A i j i2 j2 := by
  rcases h with h | ⟨h, h'⟩
  · rcases k with k | ⟨k, k'⟩
    · exact .inl (cross_lt (hQ _ _) (hQ _ _) (hQ _ _) h (Nat.le_of_lt k))
    · exact .inl (cross_lt (hQ _ _) (hQ _ _) (hQ _ _) h (Nat.le_of_eq k))
  · rcases k with k | ⟨k, k'⟩
    · exact .inl (cross_lt' (hQ _ _) (hQ _ _) (hQ _ _) (Nat.le_of_eq h) k)
    · refine .inr ⟨cross_eq (hQ _ _) h k, ?_⟩
      omega
def isB (P Q A : Nat → Nat → Nat) (o : Option (Nat × Nat)) (V : Nat → Nat → Prop) : Prop := match o with
  | none => ∀ i j, ¬ V i j
  | some c => V c.1 c.2 ∧ ∀ i j, V i j → ¬ cLt P Q A i j c.1 c.2
theorem isB.iff {P Q A : Nat → Nat → Nat} {o : Option (Nat × Nat)} {V V' : Nat → Nat → Prop} (h : isB P Q A o V) (e : ∀ i j, V i j ↔ V' i j) : isB P Q A o V' := by
  cases o with
  | none => exact fun i j q => h i j ((e i j).mpr q)
  | some c => exact ⟨(e _ _).mp h.1, fun i j q => h.2 i j ((e i j).mpr q)⟩
theorem isB.first {P Q A : Nat → Nat → Nat} {V : Nat → Nat → Prop} (h : isB P Q A none V) (i j : Nat) : isB P Q A (some (i, j)) (fun a b => V a b ∨ (a = i ∧ b = j)) := by
  refine ⟨.inr ⟨rfl, rfl⟩, fun a b q => ?_⟩
  rcases q with q | ⟨rfl, rfl⟩
  · exact absurd q (h a b)
  · intro q
    unfold cLt at q
    dsimp only at q
    omega
theorem isB.take {P Q A : Nat → Nat → Nat} {V : Nat → Nat → Prop} {c : Nat × Nat} (hQ : ∀ i j, 0 < Q i j) (h : isB P Q A (some c) V) {i j : Nat} (hc : cLt P Q A i j c.1 c.2) : isB P Q A (some (i, j)) (fun a b => V a b ∨ (a = i ∧ b = j)) := by
  refine ⟨.inr ⟨rfl, rfl⟩, fun a b q => ?_⟩
  rcases q with q | ⟨rfl, rfl⟩
  · exact fun k => h.2 a b q (cLt.tr hQ k hc)
  · intro q
    unfold cLt at q
    dsimp only at q
    omega
theorem isB.leave {P Q A : Nat → Nat → Nat} {V : Nat → Nat → Prop} {c : Nat × Nat} (h : isB P Q A (some c) V) {i j : Nat} (hc : ¬ cLt P Q A i j c.1 c.2) : isB P Q A (some c) (fun a b => V a b ∨ (a = i ∧ b = j)) := by
  refine ⟨.inl h.1, fun a b q => ?_⟩
  rcases q with q | ⟨rfl, rfl⟩
  · exact h.2 a b q
  · exact hc
theorem isB.one {P Q A : Nat → Nat → Nat} {V : Nat → Nat → Prop} {o o' : Option (Nat × Nat)} (h : isB P Q A o V) (h' : isB P Q A o' V) : (o = none ∧ o' = none) ∨ ∃ i j j', o = some (i, j) ∧ o' = some (i, j') ∧ P i j * Q i j' = P i j' * Q i j ∧ A i j = A i j' := by
  cases o with
  | none =>
    cases o' with
    | none => exact .inl ⟨rfl, rfl⟩
    | some c => exact absurd h'.1 (h _ _)
  | some c =>
    cases o' with
    | none => exact absurd h.1 (h' _ _)
    | some c' =>
      obtain ⟨i, j⟩ := c
      obtain ⟨i', j'⟩ := c'
      have q1 := h.2 _ _ h'.1
      have q2 := h'.2 _ _ h.1
      unfold cLt at q1 q2
      dsimp only at q1 q2
      have e1 : P i j * Q i' j' = P i' j' * Q i j := by omega
      have e2 : i = i' := by omega
      subst e2
      exact .inr ⟨i, j, j', rfl, rfl, e1, by omega⟩
theorem Lo_compare_eq {a b : Nat} (ha : a < 2 ^ 63) (hb : b < 2 ^ 63) (μ : Mem) : S_Lo_compare (i64 a) (i64 b) μ = some (if a < b then -1 else if a = b then 0 else 1) := by
  unfold S_Lo_compare B_Lo_compare_21
  rw [lg_nat ha hb]
  by_cases h1 : b < a
  · rw [if_pos h1, if_pos (by decide), if_neg (by decide), if_neg (show ¬ a < b by omega), if_neg (show ¬ a = b by omega)]
  · rw [if_neg h1]
    by_cases h2 : a = b
    · rw [if_pos h2, if_pos (by decide), if_pos rfl, if_neg (show ¬ a < b by omega), if_pos h2]
    · rw [if_neg h2, if_neg (by decide), if_pos (show a < b by omega)]
def rsC (P Q A : Nat → Nat → Nat) (o : Option (Nat × Nat)) (fs : List Value) : Prop := match o with
  | none => ∃ s a w r d, fs = [.int 0, .int s, .int a, .long w, .long r, .long d]
  | some c => fs = [.int 1, .int (i32 c.1), .int (i32 (A c.1 c.2)), .long (i64 (P c.1 c.2 / Q c.1 c.2)), .long (i64 (P c.1 c.2 % Q c.1 c.2)), .long (i64 (Q c.1 c.2))]
/-- takeIfBetter: the six stores -/
theorem Rs_put {ro : Nat → Nat} {μ : Mem} {R : Nat} {fs : List Value} (w : WF μ) (lo : LO μ) (h : Is ro μ R 15 (.inr (8, fs))) (hl : fs.length = 6) (s a : Int32) (wh r d : Int64) : ∃ μ', B_Rs_takeIfBetter_75 (some R) s a wh r d μ = some ((), μ') ∧ Ext (fun q => q = 15) ro μ ro μ' ∧ Is ro μ' R 15 (.inr (8, [.int 1, .int s, .int a, .long wh, .long r, .long d])) := by
  match fs, hl with
  | [f0, f1, f2, f3, f4, f5], _ =>
    have k1 : Ext (fun q => q = 15) ro μ ro (m_set μ R (.inr (8, [.int 1, f1, f2, f3, f4, f5]))) := Ext.set (W := fun q => q = 15) w h rfl _
    have s1 : pZ μ (some R) 8 0 1 = some (m_set μ R (.inr (8, [.int 1, f1, f2, f3, f4, f5]))) := by
      unfold pZ
      rw [if_pos (by decide)]
      exact pV_at _ h.1 (h.low lo) (show 0 < 6 by decide)
    have i1 := h.set ro (.inr (8, [.int 1, f1, f2, f3, f4, f5]))
    have w1 := k1.wf
    have lo1 := k1.lo w lo
    generalize m_set μ R (.inr (8, [.int 1, f1, f2, f3, f4, f5])) = μ1 at *
    have k2 : Ext (fun q => q = 15) ro μ1 ro (m_set μ1 R (.inr (8, [.int 1, .int s, f2, f3, f4, f5]))) := Ext.set (W := fun q => q = 15) w1 i1 rfl _
    have s2 : pV μ1 (some R) 8 1 (vI s) = some (m_set μ1 R (.inr (8, [.int 1, .int s, f2, f3, f4, f5]))) := pV_at _ i1.1 (i1.low lo1) (show 1 < 6 by decide)
    have i2 := i1.set ro (.inr (8, [.int 1, .int s, f2, f3, f4, f5]))
    have w2 := k2.wf
    have lo2 := k2.lo w1 lo1
    generalize m_set μ1 R (.inr (8, [.int 1, .int s, f2, f3, f4, f5])) = μ2 at *
    have k3 : Ext (fun q => q = 15) ro μ2 ro (m_set μ2 R (.inr (8, [.int 1, .int s, .int a, f3, f4, f5]))) := Ext.set (W := fun q => q = 15) w2 i2 rfl _
    have s3 : pV μ2 (some R) 8 2 (vI a) = some (m_set μ2 R (.inr (8, [.int 1, .int s, .int a, f3, f4, f5]))) := pV_at _ i2.1 (i2.low lo2) (show 2 < 6 by decide)
    have i3 := i2.set ro (.inr (8, [.int 1, .int s, .int a, f3, f4, f5]))
    have w3 := k3.wf
    have lo3 := k3.lo w2 lo2
    generalize m_set μ2 R (.inr (8, [.int 1, .int s, .int a, f3, f4, f5])) = μ3 at *
    have k4 : Ext (fun q => q = 15) ro μ3 ro (m_set μ3 R (.inr (8, [.int 1, .int s, .int a, .long wh, f4, f5]))) := Ext.set (W := fun q => q = 15) w3 i3 rfl _
    have s4 : pV μ3 (some R) 8 3 (vL wh) = some (m_set μ3 R (.inr (8, [.int 1, .int s, .int a, .long wh, f4, f5]))) := pV_at _ i3.1 (i3.low lo3) (show 3 < 6 by decide)
    have i4 := i3.set ro (.inr (8, [.int 1, .int s, .int a, .long wh, f4, f5]))
    have w4 := k4.wf
    have lo4 := k4.lo w3 lo3
    generalize m_set μ3 R (.inr (8, [.int 1, .int s, .int a, .long wh, f4, f5])) = μ4 at *
    have k5 : Ext (fun q => q = 15) ro μ4 ro (m_set μ4 R (.inr (8, [.int 1, .int s, .int a, .long wh, .long r, f5]))) := Ext.set (W := fun q => q = 15) w4 i4 rfl _
    have s5 : pV μ4 (some R) 8 4 (vL r) = some (m_set μ4 R (.inr (8, [.int 1, .int s, .int a, .long wh, .long r, f5]))) := pV_at _ i4.1 (i4.low lo4) (show 4 < 6 by decide)
    have i5 := i4.set ro (.inr (8, [.int 1, .int s, .int a, .long wh, .long r, f5]))
    have w5 := k5.wf
    have lo5 := k5.lo w4 lo4
    generalize m_set μ4 R (.inr (8, [.int 1, .int s, .int a, .long wh, .long r, f5])) = μ5 at *
    have k6 : Ext (fun q => q = 15) ro μ5 ro (m_set μ5 R (.inr (8, [.int 1, .int s, .int a, .long wh, .long r, .long d]))) := Ext.set (W := fun q => q = 15) w5 i5 rfl _
    have s6 : pV μ5 (some R) 8 5 (vL d) = some (m_set μ5 R (.inr (8, [.int 1, .int s, .int a, .long wh, .long r, .long d]))) := pV_at _ i5.1 (i5.low lo5) (show 5 < 6 by decide)
    refine ⟨_, ?_, ((((k1.tr k2).tr k3).tr k4).tr k5).tr k6, i5.set ro _⟩
    unfold B_Rs_takeIfBetter_75 B_Rs_takeIfBetter_107
    rw [s1, b1_some, s2, b1_some, s3, b1_some, s4, b1_some, s5, b1_some, s6, b1_some]
theorem Rs_take {ro : Nat → Nat} {μ : Mem} {R : Nat} {P Q A : Nat → Nat → Nat} {V : Nat → Nat → Prop} {o : Option (Nat × Nat)} {fs : List Value} {i j : Nat} (hQ : ∀ i j, 0 < Q i j) (w : WF μ) (lo : LO μ) (h : Is ro μ R 15 (.inr (8, fs))) (hfs : rsC P Q A o fs) (hB : isB P Q A o V) (hV : ∀ a b, V a b → a ≤ i ∧ P a b < 2 ^ 62 ∧ Q a b ≤ 33538050 ∧ A a b < 2 ^ 31) (hi : i < 8) (hP : P i j < 2 ^ 62) (hQb : Q i j ≤ 33538050) (hA : A i j < 2 ^ 31) : ∃ μ' o' fs', S_Rs_takeIfBetter (some R) (i32 i) (i32 (A i j)) (i64 (P i j / Q i j)) (i64 (P i j % Q i j)) (i64 (Q i j)) μ = some ((), μ') ∧ Ext (fun q => q = 15) ro μ ro μ' ∧ Is ro μ' R 15 (.inr (8, fs')) ∧ rsC P Q A o' fs' ∧ isB P Q A o' (fun a b => V a b ∨ (a = i ∧ b = j)) := by
  unfold S_Rs_takeIfBetter
  rw [b0_eq]
  cases o with
  | none =>
    obtain ⟨s, a, wh, r, d, rfl⟩ := hfs
    obtain ⟨μ', q1, q2, q3⟩ := Rs_put w lo h rfl (i32 i) (i32 (A i j)) (i64 (P i j / Q i j)) (i64 (P i j % Q i j)) (i64 (Q i j))
    refine ⟨μ', some (i, j), _, ?_, q2, q3, rfl, hB.first i j⟩
    rw [gI_at h.1 (k := 0) rfl, b1_some, if_pos rfl]
    unfold B_Rs_takeIfBetter_49
    rw [if_pos (by decide), q1]
  | some c =>
    obtain ⟨i0, j0⟩ := c
    have hfs : fs = [.int 1, .int (i32 i0), .int (i32 (A i0 j0)), .long (i64 (P i0 j0 / Q i0 j0)), .long (i64 (P i0 j0 % Q i0 j0)), .long (i64 (Q i0 j0))] := hfs
    subst hfs
    obtain ⟨v1, v2, v3, v4⟩ := hV i0 j0 hB.1
    have z1 := hQ i j
    have z2 := hQ i0 j0
    have m1 := Nat.mod_lt (P i j) z1
    have m2 := Nat.mod_lt (P i0 j0) z2
    have d1 := Nat.div_le_self (P i j) (Q i j)
    have d2 := Nat.div_le_self (P i0 j0) (Q i0 j0)
    obtain ⟨t1, t2⟩ := cf_math (Nat.div_add_mod (P i j) (Q i j)).symm m1 (Nat.div_add_mod (P i0 j0) (Q i0 j0)).symm m2
    obtain ⟨t3, t4⟩ := cf_math (Nat.div_add_mod (P i0 j0) (Q i0 j0)).symm m2 (Nat.div_add_mod (P i j) (Q i j)).symm m1
    have b1' : P i j % Q i j * Q i0 j0 ≤ 33538050 * 33538050 := Nat.mul_le_mul (by omega) v3
    have b2' : P i0 j0 % Q i0 j0 * Q i j ≤ 33538050 * 33538050 := Nat.mul_le_mul (by omega) hQb
    have hcmp : S_Rs_takeIfBetter (some R) (i32 i) (i32 (A i j)) (i64 (P i j / Q i j)) (i64 (P i j % Q i j)) (i64 (Q i j)) μ = B_Rs_takeIfBetter_49 (some R) (i32 i) (i32 (A i j)) (i64 (P i j / Q i j)) (i64 (P i j % Q i j)) (i64 (Q i j)) (if P i j * Q i0 j0 < P i0 j0 * Q i j then -1 else if P i j * Q i0 j0 = P i0 j0 * Q i j then 0 else 1) μ := by
      unfold S_Rs_takeIfBetter B_Rs_takeIfBetter_47
      rw [b0_eq, gI_at h.1 (k := 0) rfl, b1_some, if_neg (by decide), gL_at h.1 (k := 3) rfl, b1_some]
      by_cases e : P i j / Q i j = P i0 j0 / Q i0 j0
      · rw [if_pos (lg_zero.mpr (by rw [e])), gL_at h.1 (k := 5) rfl, b1_some, gL_at h.1 (k := 4) rfl, b1_some, i64_mul, i64_mul, Lo_compare_eq (by omega) (by omega), b1_some]
        have t5 := t2 e
        congr 1
        by_cases e1 : P i j * Q i0 j0 < P i0 j0 * Q i j
        · rw [if_pos e1, if_pos (show P i j % Q i j * Q i0 j0 < P i0 j0 % Q i0 j0 * Q i j by omega)]
        · rw [if_neg e1, if_neg (show ¬ P i j % Q i j * Q i0 j0 < P i0 j0 % Q i0 j0 * Q i j by omega)]
          by_cases e2 : P i j * Q i0 j0 = P i0 j0 * Q i j
          · rw [if_pos e2, if_pos (show P i j % Q i j * Q i0 j0 = P i0 j0 % Q i0 j0 * Q i j by omega)]
          · rw [if_neg e2, if_neg (show ¬ P i j % Q i j * Q i0 j0 = P i0 j0 % Q i0 j0 * Q i j by omega)]
      · rw [if_neg (fun q => e ((i64_eq (by omega) (by omega)).mp (lg_zero.mp q))), b1_some, Lo_compare_eq (by omega) (by omega), b1_some]
        congr 1
        by_cases e1 : P i j / Q i j < P i0 j0 / Q i0 j0
        · rw [if_pos e1, if_pos (t1 e1)]
        · have := t3 (by omega)
          rw [if_neg e1, if_neg e, if_neg (show ¬ P i j * Q i0 j0 < P i0 j0 * Q i j by omega), if_neg (show ¬ P i j * Q i0 j0 = P i0 j0 * Q i j by omega)]
    have hdec : B_Rs_takeIfBetter_49 (some R) (i32 i) (i32 (A i j)) (i64 (P i j / Q i j)) (i64 (P i j % Q i j)) (i64 (Q i j)) (if P i j * Q i0 j0 < P i0 j0 * Q i j then -1 else if P i j * Q i0 j0 = P i0 j0 * Q i j then 0 else 1) μ = if P i j * Q i0 j0 < P i0 j0 * Q i j ∨ (P i j * Q i0 j0 = P i0 j0 * Q i j ∧ i = i0 ∧ A i j < A i0 j0) then B_Rs_takeIfBetter_75 (some R) (i32 i) (i32 (A i j)) (i64 (P i j / Q i j)) (i64 (P i j % Q i j)) (i64 (Q i j)) μ else some ((), μ) := by
      unfold B_Rs_takeIfBetter_49 B_Rs_takeIfBetter_107
      by_cases e1 : P i j * Q i0 j0 < P i0 j0 * Q i j
      · rw [if_pos e1, if_pos (by decide), if_pos (.inl e1)]
      · rw [if_neg e1]
        by_cases e2 : P i j * Q i0 j0 = P i0 j0 * Q i j
        · rw [if_pos e2, if_neg (by decide), if_pos rfl, gI_at h.1 (k := 1) rfl, b1_some]
          by_cases e3 : i = i0
          · rw [if_pos (by rw [e3]), gI_at h.1 (k := 2) rfl, b1_some]
            by_cases e4 : A i j < A i0 j0
            · rw [if_neg (fun q => by have := (i32_le v4 hA).mp q; omega), if_pos (.inr ⟨e2, e3, e4⟩)]
            · rw [if_pos ((i32_le v4 hA).mpr (by omega)), if_neg (by omega)]
          · rw [if_neg (fun q => e3 ((i32_inj (by omega) (by omega)).mp q)), if_neg (by omega)]
        · rw [if_neg e2, if_neg (by decide), if_neg (by decide), if_neg (by omega)]
    have hcmp' := hcmp
    unfold S_Rs_takeIfBetter at hcmp'
    rw [b0_eq] at hcmp'
    rw [hcmp', hdec]
    by_cases hc : P i j * Q i0 j0 < P i0 j0 * Q i j ∨ (P i j * Q i0 j0 = P i0 j0 * Q i j ∧ i = i0 ∧ A i j < A i0 j0)
    · rw [if_pos hc]
      obtain ⟨μ', q1, q2, q3⟩ := Rs_put w lo h rfl (i32 i) (i32 (A i j)) (i64 (P i j / Q i j)) (i64 (P i j % Q i j)) (i64 (Q i j))
      exact ⟨μ', some (i, j), _, q1, q2, q3, rfl, hB.take hQ (hc.imp id (fun ⟨a, b, c⟩ => ⟨a, .inr ⟨b, c⟩⟩))⟩
    · rw [if_neg hc]
      refine ⟨μ, some (i0, j0), _, rfl, Ext.rf w, h, rfl, hB.leave (fun q => hc ?_)⟩
      unfold cLt at q
      dsimp only at q
      omega
