/-! the class's first conditions -/
theorem P_fn {ro : Nat → Nat} {μ : Mem} {c lPl aX aY nc rt aT nt lC aW hH eE rR an n r : Nat} {cq : Nat → Nat} {kd : Nat → Int32} (h1 : Is ro μ c 2 (PFc lPl aX aY nc rt aT nt lC aW hH eE rR an)) (h2 : AR ro μ lC r n cq) (hc : ∀ k, k < n → ∃ x y z wo, Is ro μ (cq k) 0 (.inr (1, [.int (kd k), .int x, .int y, .int z, .ref wo]))) (h5 : n ≤ 5) (M : Nat) : ∀ (k fuel : Nat), k + M = n → M < fuel → (∀ j, j < k → 3 < kd j) → (B_P_firstNameCondition_2 μ fuel (some c) (i32 k) = some (some an) ∧ ∀ j, j < n → 3 < kd j) ∨ ∃ q, q < n ∧ B_P_firstNameCondition_2 μ fuel (some c) (i32 k) = some (some (cq q)) ∧ ¬ 3 < kd q ∧ ∀ j, j < q → 3 < kd j := by
  induction M with
  | zero =>
    intro k fuel hk hf hj
    cases fuel with
    | zero => omega
    | succ fuel =>
      refine .inl ⟨?_, fun j h => hj j (by omega)⟩
      show b1 (gR μ (some c) 11 7) (fun x4 => b1 (rc μ x4 0) (fun _ => b1 (S_Al_size x4 μ) (fun x7 => if x7 ≤ i32 k then b1 (gR μ (some c) 11 12) (fun x50 => some x50) else _))) = _
      rw [gR_at h1.1 (k := 7) rfl, b1_some, h2.rc, b1_some, h2.size, b1_some, if_pos ((i32_le (by omega) (by omega)).mpr (by omega)), gR_at h1.1 (k := 12) rfl, b1_some]
  | succ M ih =>
    intro k fuel hk hf hj
    cases fuel with
    | zero => omega
    | succ fuel =>
      obtain ⟨x, y, z, wo, q1⟩ := hc k (by omega)
      have e : B_P_firstNameCondition_2 μ (fuel + 1) (some c) (i32 k) = if 3 < kd k then B_P_firstNameCondition_2 μ fuel (some c) (i32 (k + 1)) else some (some (cq k)) := by
        show b1 (gR μ (some c) 11 7) (fun x4 => b1 (rc μ x4 0) (fun _ => b1 (S_Al_size x4 μ) (fun x7 => if x7 ≤ i32 k then _ else b1 (gR μ (some c) 11 7) (fun x14 => b1 (rc μ x14 0) (fun _ => b1 (S_Al_get x14 (i32 k) μ) (fun x18 => b1 (cK μ x18 1) (fun _ => b1 (gI μ x18 1 0) (fun x24 => if 3 < x24 then B_P_firstNameCondition_2 μ fuel (some c) (i32 k + 1) else b1 (gR μ (some c) 11 7) (fun x32 => b1 (rc μ x32 0) (fun _ => b1 (S_Al_get x32 (i32 k) μ) (fun x36 => b1 (cK μ x36 1) (fun _ => some x36)))))))))))) = _
        rw [gR_at h1.1 (k := 7) rfl, b1_some, h2.rc, b1_some, h2.size, b1_some, if_neg (fun z => by have := (i32_le (by omega) (by omega)).mp z; omega), b1_some, h2.rc, b1_some, h2.get (by omega), b1_some, cK_at q1.1, b1_some, gI_at q1.1 (k := 0) rfl, b1_some, b1_some, h2.rc, b1_some, h2.get (by omega), b1_some, cK_at q1.1, b1_some, i32_succ]
      rw [e]
      by_cases c3 : 3 < kd k
      · rw [if_pos c3]
        exact ih (k + 1) fuel (by omega) (by omega) (fun j h => by
          by_cases cj : j = k
          · rw [cj]; exact c3
          · exact hj j (by omega))
      · rw [if_neg c3]
        exact .inr ⟨k, by omega, rfl, c3, hj⟩
theorem P_fa {ro : Nat → Nat} {μ : Mem} {c lPl aX aY nc rt aT nt lC aW hH eE rR an n r : Nat} {cq : Nat → Nat} {kd : Nat → Int32} (h1 : Is ro μ c 2 (PFc lPl aX aY nc rt aT nt lC aW hH eE rR an)) (h2 : AR ro μ lC r n cq) (hc : ∀ k, k < n → ∃ x y z wo, Is ro μ (cq k) 0 (.inr (1, [.int (kd k), .int x, .int y, .int z, .ref wo]))) (h5 : n ≤ 5) (M : Nat) : ∀ (k fuel : Nat), k + M = n → M < fuel → (∀ j, j < k → ¬ kd j = 7) → (B_P_firstAround_2 μ fuel (some c) (i32 k) = some none ∧ ∀ j, j < n → ¬ kd j = 7) ∨ ∃ q, q < n ∧ B_P_firstAround_2 μ fuel (some c) (i32 k) = some (some (cq q)) ∧ kd q = 7 ∧ ∀ j, j < q → ¬ kd j = 7 := by
  induction M with
  | zero =>
    intro k fuel hk hf hj
    cases fuel with
    | zero => omega
    | succ fuel =>
      refine .inl ⟨?_, fun j h => hj j (by omega)⟩
      show b1 (gR μ (some c) 11 7) (fun x4 => b1 (rc μ x4 0) (fun _ => b1 (S_Al_size x4 μ) (fun x7 => if x7 ≤ i32 k then some none else _))) = _
      rw [gR_at h1.1 (k := 7) rfl, b1_some, h2.rc, b1_some, h2.size, b1_some, if_pos ((i32_le (by omega) (by omega)).mpr (by omega))]
  | succ M ih =>
    intro k fuel hk hf hj
    cases fuel with
    | zero => omega
    | succ fuel =>
      obtain ⟨x, y, z, wo, q1⟩ := hc k (by omega)
      have e : B_P_firstAround_2 μ (fuel + 1) (some c) (i32 k) = if kd k = 7 then some (some (cq k)) else B_P_firstAround_2 μ fuel (some c) (i32 (k + 1)) := by
        show b1 (gR μ (some c) 11 7) (fun x4 => b1 (rc μ x4 0) (fun _ => b1 (S_Al_size x4 μ) (fun x7 => if x7 ≤ i32 k then _ else b1 (gR μ (some c) 11 7) (fun x14 => b1 (rc μ x14 0) (fun _ => b1 (S_Al_get x14 (i32 k) μ) (fun x18 => b1 (cK μ x18 1) (fun _ => b1 (gI μ x18 1 0) (fun x24 => if x24 = 7 then b1 (gR μ (some c) 11 7) (fun x32 => b1 (rc μ x32 0) (fun _ => b1 (S_Al_get x32 (i32 k) μ) (fun x36 => b1 (cK μ x36 1) (fun _ => some x36)))) else B_P_firstAround_2 μ fuel (some c) (i32 k + 1))))))))) = _
        rw [gR_at h1.1 (k := 7) rfl, b1_some, h2.rc, b1_some, h2.size, b1_some, if_neg (fun z => by have := (i32_le (by omega) (by omega)).mp z; omega), b1_some, h2.rc, b1_some, h2.get (by omega), b1_some, cK_at q1.1, b1_some, gI_at q1.1 (k := 0) rfl, b1_some, b1_some, h2.rc, b1_some, h2.get (by omega), b1_some, cK_at q1.1, b1_some, i32_succ]
      rw [e]
      by_cases c3 : kd k = 7
      · rw [if_pos c3]
        exact .inr ⟨k, by omega, rfl, c3, hj⟩
      · rw [if_neg c3]
        exact ih (k + 1) fuel (by omega) (by omega) (fun j h => by
          by_cases cj : j = k
          · rw [cj]; exact c3
          · exact hj j (by omega))
theorem cond_kind {N len : Nat} {kind a b c : Int32} (h : condQ N kind a b c len) : (0 ≤ kind) ∧ ((0 ≤ kind ∧ kind ≤ 3) ↔ ¬ 3 < kind) ∧ (¬ 3 < kind → kind = 0 ∨ kind = 1 ∨ kind = 2 ∨ kind = 3) := by
  unfold condQ at h
  have h9 : kind = 0 ∨ kind = 1 ∨ kind = 2 ∨ kind = 3 ∨ kind = 4 ∨ kind = 5 ∨ kind = 6 ∨ kind = 7 ∨ kind = 8 := by
    rcases h with ⟨h | h | h, _⟩ | ⟨h, _⟩ | h | ⟨h | h, _⟩ | ⟨h, _⟩ | ⟨h, _⟩ <;> simp [h]
  rcases h9 with rfl | rfl | rfl | rfl | rfl | rfl | rfl | rfl | rfl <;> decide
theorem fsT.one {p : Nat → Prop} {n : Nat} {r : Int32} (h : fsT p n r) : (∀ j, j < n → ¬ p j) → r = -1 := by
  intro hn
  rcases h with ⟨h1, h2⟩ | ⟨q, h1, h2, h3, h4⟩
  · exact h1
  · exact absurd h3 (hn q h1)
theorem fsT.at {p : Nat → Prop} {n q : Nat} {r : Int32} (h : fsT p n r) (hq : q < n) (hp : p q) (hj : ∀ j, j < q → ¬ p j) : r = i32 q := by
  rcases h with ⟨h1, h2⟩ | ⟨q', h1, h2, h3, h4⟩
  · exact absurd hp (h2 q hq)
  · have : q = q' := by
      rcases Nat.lt_trichotomy q q' with z | z | z
      · exact absurd hp (h4 q z)
      · exact z
      · exact absurd h3 (hj q' z)
    rw [h2, this]
/-- the condition whose names count for the order: the class's and the reference's -/
def ncQ (ro : Nat → Nat) (μ : Mem) (ρ : RS) (cd : Nat) (kind x y z : Int32) (m : Nat) (u : Nat → Int32) (r : Int32) : Prop := CN0 ro μ cd kind x y z m u ∧ ltr m u ∧ (kind = 0 ∨ kind = 1 ∨ kind = 2 ∨ kind = 3) ∧ ((r = -1 ∧ ∀ n w, fitQ kind x n w m u) ∨ ∃ q, q < 5 ∧ r = i32 q ∧ ra ρ 24 q = kind ∧ ra ρ 25 q = x ∧ ra ρ 28 q = i32 m ∧ ∀ j, ra ρ 29 (10 * q + j) = u j)
theorem name_cond {ro : Nat → Nat} {μ : Mem} {ρ : RS} {N c lPl aX aY nc rt aT nt lC aW hH eE rR an : Nat} (h1 : Is ro μ c 2 (PFc lPl aX aY nc rt aT nt lC aW hH eE rR an)) (h7 : IC ro μ ρ N 0 lC 8) (h12 : CN0 ro μ an 1 0 0 0 0 (fun _ => 0)) : ∃ (cd : Nat) (kind x y z : Int32) (m : Nat) (u : Nat → Int32) (r : Int32), S_P_firstNameCondition (some c) μ = some (some cd) ∧ R_M_firstCondition 0 3 ρ = some r ∧ ncQ ro μ ρ cd kind x y z m u r := by
  obtain ⟨n, cq, c1, c2, c3, c4⟩ := h7
  have c4' : ∀ k, k < n → IQ ro μ ρ N k (cq k) := fun k hk => by
    have := c4 k hk
    rw [Nat.mul_zero, Nat.zero_add] at this
    exact this
  obtain ⟨r, r1, r2⟩ := R_first_eq 0 3 c2 c1
  have hkd : ∀ j, j < n → ((0 ≤ ra ρ 24 j ∧ ra ρ 24 j ≤ 3) ↔ ¬ 3 < ra ρ 24 j) := fun j hj => by
    obtain ⟨len, q1, q2, q3, q4⟩ := c4' j hj
    exact (cond_kind q3).2.1
  have r3 := r2.iff hkd
  rcases P_fn (kd := ra ρ 24) h1 c3 (fun k hk => by
    obtain ⟨len, ⟨wo, q1, _⟩, _⟩ := c4' k hk
    exact ⟨_, _, _, wo, q1⟩) c2 n 0 fu (by omega) (by show n < 4096; omega) (fun j hj => absurd hj (Nat.not_lt_zero j)) with ⟨f1, f2⟩ | ⟨q, f1, f2, f3, f4⟩
  · have hr : r = -1 := r3.one (fun j hj z => z (f2 j hj))
    refine ⟨an, 1, 0, 0, 0, 0, _, r, f1, r1, h12, ⟨by decide, fun k hk => absurd hk (Nat.not_lt_zero k)⟩, .inr (.inl rfl), .inl ⟨hr, fun n w => .inr (.inl ⟨rfl, Nat.zero_le _, rfl⟩)⟩⟩
  · have hr : r = i32 q := r3.at f1 f3 (fun j hj z => z (f4 j hj))
    obtain ⟨len, q1, q2, q3, q4⟩ := c4' q f1
    exact ⟨cq q, _, _, _, _, len, _, r, f2, r1, q1, q4, (cond_kind q3).2.2 f3, .inr ⟨q, by omega, hr, rfl, rfl, q2, fun _ => rfl⟩⟩
/-- the point from which the second order counts -/
def arQ (ro : Nat → Nat) (μ : Mem) (ρ : RS) (o : Option Nat) (r : Int32) : Prop := (o = none ∧ r = -1) ∨ ∃ cd q x y z wo, o = some cd ∧ r = i32 q ∧ q < 5 ∧ Is ro μ cd 0 (.inr (1, [.int 7, .int x, .int y, .int z, .ref wo])) ∧ ra ρ 25 q = x ∧ ra ρ 26 q = y ∧ inB x ∧ inB y
theorem around_cond {ro : Nat → Nat} {μ : Mem} {ρ : RS} {N c lPl aX aY nc rt aT nt lC aW hH eE rR an : Nat} (h1 : Is ro μ c 2 (PFc lPl aX aY nc rt aT nt lC aW hH eE rR an)) (h7 : IC ro μ ρ N 0 lC 8) : ∃ (o : Option Nat) (r : Int32), S_P_firstAround (some c) μ = some o ∧ R_M_firstCondition 7 7 ρ = some r ∧ arQ ro μ ρ o r := by
  obtain ⟨n, cq, c1, c2, c3, c4⟩ := h7
  have c4' : ∀ k, k < n → IQ ro μ ρ N k (cq k) := fun k hk => by
    have := c4 k hk
    rw [Nat.mul_zero, Nat.zero_add] at this
    exact this
  obtain ⟨r, r1, r2⟩ := R_first_eq 7 7 c2 c1
  have r3 := r2.iff (p' := fun j => ra ρ 24 j = 7) (fun j hj => ⟨fun z => Int32.le_antisymm z.2 z.1, fun z => by rw [z]; decide⟩)
  rcases P_fa (kd := ra ρ 24) h1 c3 (fun k hk => by
    obtain ⟨len, ⟨wo, q1, _⟩, _⟩ := c4' k hk
    exact ⟨_, _, _, wo, q1⟩) c2 n 0 fu (by omega) (by show n < 4096; omega) (fun j hj => absurd hj (Nat.not_lt_zero j)) with ⟨f1, f2⟩ | ⟨q, f1, f2, f3, f4⟩
  · exact ⟨none, r, f1, r1, .inl ⟨rfl, r3.one f2⟩⟩
  · have hr : r = i32 q := r3.at f1 f3 f4
    obtain ⟨len, ⟨wo, q1, _⟩, q2, q3, q4⟩ := c4' q f1
    rw [f3] at q1 q3
    have hin : inB (ra ρ 25 q) ∧ inB (ra ρ 26 q) := by
      unfold condQ at q3
      rcases q3 with ⟨h | h | h, _⟩ | ⟨h, _⟩ | h | ⟨h | h, _⟩ | ⟨_, h⟩ | ⟨h, _⟩
      all_goals first | exact ⟨h.1, h.2.1⟩ | (exact absurd h (by decide))
    exact ⟨some (cq q), r, f2, r1, .inr ⟨cq q, q, _, _, _, wo, rfl, hr, by omega, q1, rfl, rfl, hin⟩⟩
