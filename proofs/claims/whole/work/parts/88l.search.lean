/-! RouteSearch.start -/
def cP (X Y U V : Nat → Int32) (i j : Nat) : Nat := mP (X i) (Y i) (X (i + 1)) (Y (i + 1)) (U j) (V j)
def cQ (X Y U V : Nat → Int32) (i j : Nat) : Nat := mQ (X i) (Y i) (X (i + 1)) (Y (i + 1)) (U j) (V j)
def cA (X Y U V : Nat → Int32) (i j : Nat) : Nat := mA (X i) (Y i) (X (i + 1)) (Y (i + 1)) (U j) (V j)
def cL (X Y : Nat → Int32) (i : Nat) : Nat := mL (X i) (Y i) (X (i + 1)) (Y (i + 1))
theorem cQ_pos (X Y U V : Nat → Int32) (i j : Nat) : 0 < cQ X Y U V i j := by
  unfold cQ mQ
  split
  · decide
  · split
    · omega
    · decide
def vC (n m i j a b : Nat) : Prop := a + 1 < n ∧ b < m ∧ (a < i ∨ (a = i ∧ b < j))
def vRf (n m i j a b : Nat) : Prop := a + 1 < n ∧ b < m ∧ (b < j ∨ (b = j ∧ a < i))
theorem c_bd {n m : Nat} {X Y U V : Nat → Int32} (hB : ∀ k, k < n → inB (X k) ∧ inB (Y k)) (hB2 : ∀ k, k < m → inB (U k) ∧ inB (V k)) {i j : Nat} (hi : i + 1 < n) (hj : j < m) : cP X Y U V i j ≤ 1124800797802500 ∧ cQ X Y U V i j ≤ 33538050 ∧ cA X Y U V i j ≤ 33538050 ∧ 0 < cL X Y i ∧ cL X Y i ≤ 33538050 ∧ cA X Y U V i j ≤ cL X Y i := by
  obtain ⟨h1, h2⟩ := hB i (by omega)
  obtain ⟨h3, h4⟩ := hB (i + 1) hi
  obtain ⟨h5, h6⟩ := hB2 j hj
  obtain ⟨q1, q2, q3, q4, q5, q6, q7⟩ := m_bd h1 h2 h3 h4 h5 h6
  exact ⟨q1, q3, q4, q5, q6, q7⟩
theorem Rs_in {ro : Nat → Nat} {μ0 : Mem} {R rt sh n m i : Nat} {X Y U V : Nat → Int32} (k7 : Option Nat → Option Nat → Option Nat → Int32 → Mem → Option (Unit × Mem)) (w0 : WF μ0) (lo0 : LO μ0) (hrt : CO0 ro μ0 rt n X Y) (hsh : CO0 ro μ0 sh m U V) (hB : ∀ k, k < n → inB (X k) ∧ inB (Y k)) (hB2 : ∀ k, k < m → inB (U k) ∧ inB (V k)) (hi : i + 1 < n) (h8 : n ≤ 8) (hm8 : m ≤ 8) (M : Nat) : ∀ (j fuel : Nat) (μ : Mem) (o : Option (Nat × Nat)) (fs : List Value), Ext (fun q => q = 15) ro μ0 ro μ → Is ro μ R 15 (.inr (8, fs)) → rsC (cP X Y U V) (cQ X Y U V) (cA X Y U V) o fs → isB (cP X Y U V) (cQ X Y U V) (cA X Y U V) o (vC n m i j) → j + M = m → M < fuel → ∃ (μ' : Mem) (o' : Option (Nat × Nat)) (fs' : List Value), B_Rs_start_20 k7 fuel (some R) (some rt) (some sh) (i32 i) (i32 j) μ = k7 (some R) (some rt) (some sh) (i32 (i + 1)) μ' ∧ Ext (fun q => q = 15) ro μ0 ro μ' ∧ Is ro μ' R 15 (.inr (8, fs')) ∧ rsC (cP X Y U V) (cQ X Y U V) (cA X Y U V) o' fs' ∧ isB (cP X Y U V) (cQ X Y U V) (cA X Y U V) o' (vC n m (i + 1) 0) := by
  induction M with
  | zero =>
    intro j fuel μ o fs e hR hfs hb hj hf
    cases fuel with
    | zero => omega
    | succ fuel =>
      obtain ⟨bx, by', g0, g1, g2, g3, g4, g5, g8⟩ := (hsh.ext e (by decide)).co.v
      refine ⟨μ, o, fs, ?_, e, hR, hfs, hb.iff (fun a b => ?_)⟩
      · show b1 (gI μ (some sh) 2 0) (fun x23 => if x23 ≤ i32 j then k7 (some R) (some rt) (some sh) (i32 i + 1) μ else _) = _
        rw [g0, b1_some, if_pos ((i32_le (by omega) (by omega)).mpr (by omega)), i32_succ]
      · unfold vC
        omega
  | succ M ih =>
    intro j fuel μ o fs e hR hfs hb hj hf
    cases fuel with
    | zero => omega
    | succ fuel =>
      have hsh1 := hsh.ext e (by decide)
      have hrt1 := hrt.ext e (by decide)
      obtain ⟨bx, by', g0, g1, g2, g3, g4, g5, g8⟩ := hsh1.co.v
      have hjm : j < m := by omega
      obtain ⟨b1', b2', b3'⟩ := c_bd hB hB2 hi hjm
      obtain ⟨μ1, o1, fs1, t1, t2, t3, t4, t5⟩ := Rs_take (P := cP X Y U V) (Q := cQ X Y U V) (A := cA X Y U V) (i := i) (j := j) (cQ_pos X Y U V) e.wf (e.lo w0 lo0) hR hfs hb (fun a b q => by
        obtain ⟨q1, q2, q3⟩ := q
        obtain ⟨c1, c2, c3⟩ := c_bd hB hB2 q1 q2
        omega) (by omega) (by omega) b2' (by omega)
      obtain ⟨μ', o', fs', r1, r2⟩ := ih (j + 1) fuel μ1 o1 fs1 (e.tr t2) t3 t4 (t5.iff (fun a b => by unfold vC; omega)) (by omega) (by omega)
      refine ⟨μ', o', fs', ?_, r2⟩
      show b1 (gI μ (some sh) 2 0) (fun x23 => if x23 ≤ i32 j then _ else b1 (gR μ (some sh) 2 1) (fun x33 => b1 (aI μ x33 0 (i32 j)) (fun x38 => b1 (gR μ (some sh) 2 2) (fun x40 => b1 (aI μ x40 0 (i32 j)) (fun x45 => b1 (rc μ (some R) 8) (fun _ => b2 (S_Rs_measure (some R) (some rt) (i32 i) x38 x45 μ) (fun x46 m46 => B_Rs_start_20 k7 fuel (some R) (some rt) (some sh) (i32 i) (i32 j + 1) m46))))))) = _
      rw [g0, b1_some, if_neg (fun q => by have := (i32_le (by omega) (by omega)).mp q; omega), g1, b1_some, g4 j hjm, b1_some, g2, b1_some, g5 j hjm, b1_some, rc_at hR.1, b1_some, Rs_measure_eq hrt1.co hi hB (hB2 j hjm).1 (hB2 j hjm).2 hR.1]
      unfold cP cQ cA at t1
      rw [t1, b2_some, i32_succ, r1]
theorem Rs_out {ro : Nat → Nat} {μ0 : Mem} {R rt sh n m : Nat} {X Y U V : Nat → Int32} (w0 : WF μ0) (lo0 : LO μ0) (hrt : CO0 ro μ0 rt n X Y) (hsh : CO0 ro μ0 sh m U V) (hB : ∀ k, k < n → inB (X k) ∧ inB (Y k)) (hB2 : ∀ k, k < m → inB (U k) ∧ inB (V k)) (h8 : n ≤ 8) (hm8 : m ≤ 8) (M : Nat) : ∀ (i fuel : Nat) (μ : Mem) (o : Option (Nat × Nat)) (fs : List Value), Ext (fun q => q = 15) ro μ0 ro μ → Is ro μ R 15 (.inr (8, fs)) → rsC (cP X Y U V) (cQ X Y U V) (cA X Y U V) o fs → isB (cP X Y U V) (cQ X Y U V) (cA X Y U V) o (vC n m i 0) → i < 9 → n ≤ i + 1 + M → M < fuel → ∃ (μ' : Mem) (o' : Option (Nat × Nat)) (fs' : List Value), B_Rs_start_7 fuel (some R) (some rt) (some sh) (i32 i) μ = some ((), μ') ∧ Ext (fun q => q = 15) ro μ0 ro μ' ∧ Is ro μ' R 15 (.inr (8, fs')) ∧ rsC (cP X Y U V) (cQ X Y U V) (cA X Y U V) o' fs' ∧ isB (cP X Y U V) (cQ X Y U V) (cA X Y U V) o' (fun a b => a + 1 < n ∧ b < m) := by
  have done : ∀ (i fuel : Nat) (μ : Mem) (o : Option (Nat × Nat)) (fs : List Value), Ext (fun q => q = 15) ro μ0 ro μ → Is ro μ R 15 (.inr (8, fs)) → rsC (cP X Y U V) (cQ X Y U V) (cA X Y U V) o fs → isB (cP X Y U V) (cQ X Y U V) (cA X Y U V) o (vC n m i 0) → i < 9 → n ≤ i + 1 → ∃ (μ' : Mem) (o' : Option (Nat × Nat)) (fs' : List Value), B_Rs_start_7 (fuel + 1) (some R) (some rt) (some sh) (i32 i) μ = some ((), μ') ∧ Ext (fun q => q = 15) ro μ0 ro μ' ∧ Is ro μ' R 15 (.inr (8, fs')) ∧ rsC (cP X Y U V) (cQ X Y U V) (cA X Y U V) o' fs' ∧ isB (cP X Y U V) (cQ X Y U V) (cA X Y U V) o' (fun a b => a + 1 < n ∧ b < m) := by
    intro i fuel μ o fs e hR hfs hb hi9 hn
    obtain ⟨bx, by', g0, -⟩ := (hrt.ext e (by decide)).co.v
    refine ⟨μ, o, fs, ?_, e, hR, hfs, hb.iff (fun a b => by unfold vC; omega)⟩
    show b1 (gI μ (some rt) 2 0) (fun x11 => if x11 ≤ i32 i + 1 then some ((), μ) else _) = _
    rw [g0, b1_some, i32_succ, if_pos ((i32_le (by omega) (by omega)).mpr (by omega))]
  induction M with
  | zero =>
    intro i fuel μ o fs e hR hfs hb hi9 hn hf
    cases fuel with
    | zero => omega
    | succ fuel => exact done i fuel μ o fs e hR hfs hb hi9 (by omega)
  | succ M ih =>
    intro i fuel μ o fs e hR hfs hb hi9 hn hf
    cases fuel with
    | zero => omega
    | succ fuel =>
      by_cases hi : i + 1 < n
      · obtain ⟨bx, by', g0, -⟩ := (hrt.ext e (by decide)).co.v
        obtain ⟨μ1, o1, fs1, t1, t2, t3, t4, t5⟩ := Rs_in (fun v0 v1 v2 v3 μ => B_Rs_start_7 fuel v0 v1 v2 v3 μ) w0 lo0 hrt hsh hB hB2 hi h8 hm8 m 0 fu μ o fs e hR hfs hb (by omega) (by show m < 4096; omega)
        obtain ⟨μ', o', fs', r1, r2⟩ := ih (i + 1) fuel μ1 o1 fs1 t2 t3 t4 t5 (by omega) (by omega) (by omega)
        refine ⟨μ', o', fs', ?_, r2⟩
        show b1 (gI μ (some rt) 2 0) (fun x11 => if x11 ≤ i32 i + 1 then _ else B_Rs_start_20 (fun v0 v1 v2 v3 μ => B_Rs_start_7 fuel v0 v1 v2 v3 μ) fu (some R) (some rt) (some sh) (i32 i) (i32 0) μ) = _
        rw [g0, b1_some, i32_succ, if_neg (fun q => by have := (i32_le (by omega) (by omega)).mp q; omega), t1, r1]
      · exact done i fuel μ o fs e hR hfs hb hi9 (by omega)
theorem Rs_start_eq {ro : Nat → Nat} {μ : Mem} {R rt sh n m : Nat} {X Y U V : Nat → Int32} (w : WF μ) (lo : LO μ) (hR : IS ro μ R) (hrt : CO0 ro μ rt n X Y) (hsh : CO0 ro μ sh m U V) (hB : ∀ k, k < n → inB (X k) ∧ inB (Y k)) (hB2 : ∀ k, k < m → inB (U k) ∧ inB (V k)) (h8 : n ≤ 8) (hm8 : m ≤ 8) : ∃ (μ' : Mem) (o : Option (Nat × Nat)) (fs : List Value), S_Rs_start (some R) (some rt) (some sh) μ = some ((), μ') ∧ Ext (fun q => q = 15) ro μ ro μ' ∧ Is ro μ' R 15 (.inr (8, fs)) ∧ rsC (cP X Y U V) (cQ X Y U V) (cA X Y U V) o fs ∧ isB (cP X Y U V) (cQ X Y U V) (cA X Y U V) o (fun a b => a + 1 < n ∧ b < m) := by
  obtain ⟨f, s, a, wh, r, d, hR⟩ := hR
  have k1 : Ext (fun q => q = 15) ro μ ro (m_set μ R (.inr (8, [.int 0, .int s, .int a, .long wh, .long r, .long d]))) := Ext.set (W := fun q => q = 15) w hR rfl _
  have s1 : pZ μ (some R) 8 0 0 = some (m_set μ R (.inr (8, [.int 0, .int s, .int a, .long wh, .long r, .long d]))) := by
    unfold pZ
    rw [if_pos (by decide)]
    exact pV_at _ hR.1 (hR.low lo) (show 0 < 6 by decide)
  obtain ⟨μ', o', fs', r1, r2⟩ := Rs_out (R := R) w lo hrt hsh hB hB2 h8 hm8 8 0 fu _ none _ k1 (hR.set ro _) ⟨s, a, wh, r, d, rfl⟩ (fun a b q => by unfold vC at q; omega) (by omega) (by omega) (by decide)
  refine ⟨μ', o', fs', ?_, r2⟩
  unfold S_Rs_start
  rw [s1, b1_some]
  exact r1
theorem rsC.is {ro : Nat → Nat} {μ : Mem} {R : Nat} {P Q A : Nat → Nat → Nat} {o : Option (Nat × Nat)} {fs : List Value} (h : Is ro μ R 15 (.inr (8, fs))) (hfs : rsC P Q A o fs) : IS ro μ R := by
  cases o with
  | none =>
    obtain ⟨s, a, wh, r, d, rfl⟩ := hfs
    exact ⟨_, _, _, _, _, _, h⟩
  | some c =>
    have hfs : fs = [.int 1, .int (i32 c.1), .int (i32 (A c.1 c.2)), .long (i64 (P c.1 c.2 / Q c.1 c.2)), .long (i64 (P c.1 c.2 % Q c.1 c.2)), .long (i64 (Q c.1 c.2))] := hfs
    subst hfs
    exact ⟨_, _, _, _, _, _, h⟩
def wiQ (P Q : Nat → Nat → Nat) (o : Option (Nat × Nat)) (D : Nat) : Bool := match o with
  | none => false
  | some c => decide (P c.1 c.2 ≤ D * D * Q c.1 c.2)
theorem Rs_isWithin_eq {ro : Nat → Nat} {μ : Mem} {R D : Nat} {P Q A : Nat → Nat → Nat} {o : Option (Nat × Nat)} {fs : List Value} (h : Is ro μ R 15 (.inr (8, fs))) (hfs : rsC P Q A o fs) (hQ : ∀ i j, 0 < Q i j) (hD : D ≤ 10000) (hb : ∀ c, o = some c → P c.1 c.2 < 2 ^ 62 ∧ Q c.1 c.2 ≤ 33538050) : S_Rs_isWithin (some R) (i32 D) μ = some (if wiQ P Q o D then 1 else 0) := by
  have e64 : (i32 D).toInt64 = i64 D := Int32.toInt64_ofNat' (by rw [Int32.toInt_maxValue]; omega)
  have hDD : D * D ≤ 10000 * 10000 := Nat.mul_le_mul hD hD
  unfold S_Rs_isWithin B_Rs_isWithin_40 B_Rs_isWithin_44 B_Rs_isWithin_45
  rw [b0_eq, e64, i64_mul, gd0, gd1]
  cases o with
  | none =>
    obtain ⟨s, a, wh, r, d, rfl⟩ := hfs
    rw [gI_at h.1 (k := 0) rfl, b1_some, if_pos rfl]
    rfl
  | some c =>
    have hfs : fs = [.int 1, .int (i32 c.1), .int (i32 (A c.1 c.2)), .long (i64 (P c.1 c.2 / Q c.1 c.2)), .long (i64 (P c.1 c.2 % Q c.1 c.2)), .long (i64 (Q c.1 c.2))] := hfs
    subst hfs
    obtain ⟨b1', b2'⟩ := hb c rfl
    rw [gI_at h.1 (k := 0) rfl, b1_some, if_neg (by decide), gL_at h.1 (k := 3) rfl, b1_some, b1_some, gL_at h.1 (k := 4) rfl, b1_some]
    show _ = some (if decide (P c.1 c.2 ≤ D * D * Q c.1 c.2) = true then 1 else 0)
    have hq := hQ c.1 c.2
    generalize P c.1 c.2 = p at *
    generalize Q c.1 c.2 = q at *
    have m1 := Nat.mod_lt p hq
    have m2 := Nat.div_add_mod p q
    have d1 := Nat.div_le_self p q
    rw [lg_nat (a := p / q) (b := D * D) (by omega) (by omega)]
    have key : (p ≤ D * D * q) ↔ (p / q < D * D ∨ (p / q = D * D ∧ p % q = 0)) := by
      constructor
      · intro h
        by_cases h1 : p / q < D * D
        · exact .inl h1
        · have h2 : D * D * q ≤ p / q * q := Nat.mul_le_mul_right q (by omega)
          rw [Nat.mul_comm (p / q) q] at h2
          have h3 : p % q = 0 := by omega
          refine .inr ⟨?_, h3⟩
          have h4 : q * (p / q) ≤ q * (D * D) := by rw [Nat.mul_comm q (D * D)]; omega
          have := Nat.le_of_mul_le_mul_left h4 hq
          omega
      · rintro (h | ⟨h1, h2⟩)
        · have h3 : q * (p / q + 1) ≤ q * (D * D) := Nat.mul_le_mul_left q h
          rw [Nat.mul_succ, Nat.mul_comm q (D * D)] at h3
          omega
        · rw [h1, Nat.mul_comm q (D * D)] at m2
          omega
    by_cases h1 : D * D < p / q
    · rw [if_pos h1, if_neg (by decide), if_neg (by decide), if_neg (by rw [decide_eq_true_eq, key]; omega)]
    · rw [if_neg h1]
      by_cases h2 : p / q = D * D
      · rw [if_pos h2, if_neg (by decide), if_pos rfl]
        by_cases h3 : p % q = 0
        · rw [if_pos ((lg0 (by omega)).mpr h3), if_pos (by rw [decide_eq_true_eq, key]; omega)]
        · rw [if_neg (fun z => h3 ((lg0 (by omega)).mp z)), if_neg (by rw [decide_eq_true_eq, key]; omega)]
      · rw [if_neg h2, if_pos (by decide), if_pos (by rw [decide_eq_true_eq, key]; omega)]
