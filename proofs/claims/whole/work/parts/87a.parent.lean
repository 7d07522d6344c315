/-! parent: the reference's search -/
theorem rpIx (ρ : RS) (k : Nat) (x y : Int32) : rpI (rpI ρ k x) k y = rpI ρ k y := by
  show (va_up (va_up (ri ρ) k x) k y, rl ρ, ra ρ, rL ρ) = (va_up (ri ρ) k y, rl ρ, ra ρ, rL ρ)
  rw [up2]
theorem any_iff (F T : Nat → Int32) (a b : Int32) (m : Nat) : ∀ k, anyF F T a b m k = true ↔ ∃ j, k ≤ j ∧ j < k + m ∧ F j ≤ b ∧ a ≤ T j := by
  induction m with
  | zero => intro k; exact ⟨fun q => (by cases q), fun ⟨j, h1, h2, _⟩ => by omega⟩
  | succ m ih =>
    intro k
    unfold anyF
    by_cases h : F k ≤ b ∧ a ≤ T k
    · simp only [h, if_true, and_self]
      exact ⟨fun _ => ⟨k, by omega, by omega, h⟩, fun _ => trivial⟩
    · rw [if_neg h, ih (k + 1)]
      constructor
      · rintro ⟨j, h1, h2, h3⟩
        exact ⟨j, by omega, by omega, h3⟩
      · rintro ⟨j, h1, h2, h3⟩
        by_cases hjk : j = k
        · subst hjk; exact absurd h3 h
        · exact ⟨j, by omega, by omega, h3⟩
/-- one place's spans -/
theorem R_p153 {ρ0 : RS} {i area : Nat} {f t : Int32} {N p S : Nat} {q : Int32 → Int32} (hp : p < 30) (hS : S ≤ 4) (h14 : ra ρ0 14 p = i32 S) (hq0 : ∀ day, R_M_isAbove (i32 i) (i32 area) day ρ0 = some (q day)) (hq3 : ∀ day, R_M_isAbove (i32 i) (i32 area) day (rpI ρ0 0 3) = some (q day)) (k134 : Int32 → Int32 → Int32 → Int32 → Int32 → RS → Option (Unit × RS)) (m : Nat) : ∀ (k fuel : Nat) (b : Bool), k + m = S → m < fuel → ∃ b' : Bool, RB_M_parent_153 k134 fuel (i32 i) (i32 area) f t (i32 p) (i32 k) (if b then rpI ρ0 0 3 else ρ0) = k134 (i32 i) (i32 area) f t (i32 (p + 1)) (if b' then rpI ρ0 0 3 else ρ0) ∧ (b' = true ↔ b = true ∨ ∃ j, k ≤ j ∧ j < S ∧ f ≤ ra ρ0 16 (4 * p + j) ∧ ra ρ0 16 (4 * p + j) ≤ t ∧ q (ra ρ0 16 (4 * p + j)) ≠ 0) := by
  have a14 : ∀ b : Bool, rgI (if b then rpI ρ0 0 3 else ρ0) 14 30 (i32 p) = some (i32 S) := fun b => by
    rw [rgI_at hp (by decide)]
    cases b
    · exact congrArg some h14
    · exact congrArg some h14
  have a16 : ∀ (b : Bool) j, j < 4 → rgI (if b then rpI ρ0 0 3 else ρ0) 16 120 (i32 (4 * p + j)) = some (ra ρ0 16 (4 * p + j)) := fun b j hj => by
    rw [rgI_at (by omega) (by decide)]
    cases b <;> rfl
  have aq : ∀ (b : Bool) day, R_M_isAbove (i32 i) (i32 area) day (if b then rpI ρ0 0 3 else ρ0) = some (q day) := fun b day => by
    cases b
    · exact hq0 day
    · exact hq3 day
  have a3 : ∀ b : Bool, rpI (if b then rpI ρ0 0 3 else ρ0) 0 3 = (if true then rpI ρ0 0 3 else ρ0) := fun b => by
    cases b
    · rfl
    · exact rpIx _ _ _ _
  induction m with
  | zero =>
    intro k fuel b hk hf
    cases fuel with
    | zero => omega
    | succ fuel =>
      refine ⟨b, ?_, ⟨fun h => .inl h, fun h => h.elim id (fun ⟨j, h1, h2, _⟩ => by omega)⟩⟩
      show b1 (rgI (if b then rpI ρ0 0 3 else ρ0) 14 30 (i32 p)) (fun x161 => if x161 ≤ i32 k then k134 (i32 i) (i32 area) f t (i32 p + 1) (if b then rpI ρ0 0 3 else ρ0) else _) = _
      rw [a14, b1_some, if_pos ((i32_le (by omega) (by omega)).mpr (by omega)), i32_succ]
  | succ m ih =>
    intro k fuel b hk hf
    cases fuel with
    | zero => omega
    | succ fuel =>
      have expand : RB_M_parent_153 k134 (fuel + 1) (i32 i) (i32 area) f t (i32 p) (i32 k) (if b then rpI ρ0 0 3 else ρ0) = if f ≤ ra ρ0 16 (4 * p + k) ∧ ra ρ0 16 (4 * p + k) ≤ t then (if q (ra ρ0 16 (4 * p + k)) = 0 then RB_M_parent_153 k134 fuel (i32 i) (i32 area) f t (i32 p) (i32 (k + 1)) (if b then rpI ρ0 0 3 else ρ0) else RB_M_parent_153 k134 fuel (i32 i) (i32 area) f t (i32 p) (i32 (k + 1)) (if true then rpI ρ0 0 3 else ρ0)) else RB_M_parent_153 k134 fuel (i32 i) (i32 area) f t (i32 p) (i32 (k + 1)) (if b then rpI ρ0 0 3 else ρ0) := by
        show b1 (rgI (if b then rpI ρ0 0 3 else ρ0) 14 30 (i32 p)) (fun x161 => if x161 ≤ i32 k then _ else b1 (rgI (if b then rpI ρ0 0 3 else ρ0) 16 120 ((4 * i32 p) + i32 k)) (fun x176 => b1 (R_M_in x176 f t) (fun x184 => if x184 = 0 then RB_M_parent_153 k134 fuel (i32 i) (i32 area) f t (i32 p) (i32 k + 1) (if b then rpI ρ0 0 3 else ρ0) else b1 (R_M_isAbove (i32 i) (i32 area) x176 (if b then rpI ρ0 0 3 else ρ0)) (fun x195 => if x195 = 0 then RB_M_parent_153 k134 fuel (i32 i) (i32 area) f t (i32 p) (i32 k + 1) (if b then rpI ρ0 0 3 else ρ0) else b0 (rpI (if b then rpI ρ0 0 3 else ρ0) 0 3) (fun ρ203 => RB_M_parent_153 k134 fuel (i32 i) (i32 area) f t (i32 p) (i32 k + 1) ρ203))))) = _
        rw [a14, b1_some, if_neg (fun q => by have := (i32_le (by omega) (by omega)).mp q; omega), i32_4, a16 b k (by omega), b1_some, R_in, b1_some, i32_succ, aq, b1_some, b0_eq, a3, bI_if]
      rw [expand]
      by_cases hin : f ≤ ra ρ0 16 (4 * p + k) ∧ ra ρ0 16 (4 * p + k) ≤ t
      · rw [if_pos hin]
        by_cases hqz : q (ra ρ0 16 (4 * p + k)) = 0
        · rw [if_pos hqz]
          obtain ⟨b', p1, p2⟩ := ih (k + 1) fuel b (by omega) (by omega)
          refine ⟨b', p1, p2.trans ⟨fun h => h.imp id (fun ⟨j, h1, h2⟩ => ⟨j, by omega, h2⟩), fun h => h.imp id (fun ⟨j, h1, h2⟩ => ?_)⟩⟩
          by_cases hjk : j = k
          · subst hjk; exact absurd hqz h2.2.2.2
          · exact ⟨j, by omega, h2⟩
        · rw [if_neg hqz]
          obtain ⟨b', p1, p2⟩ := ih (k + 1) fuel true (by omega) (by omega)
          exact ⟨b', p1, ⟨fun _ => .inr ⟨k, Nat.le_refl _, by omega, hin.1, hin.2, hqz⟩, fun _ => p2.mpr (.inl rfl)⟩⟩
      · rw [if_neg hin]
        obtain ⟨b', p1, p2⟩ := ih (k + 1) fuel b (by omega) (by omega)
        refine ⟨b', p1, p2.trans ⟨fun h => h.imp id (fun ⟨j, h1, h2⟩ => ⟨j, by omega, h2⟩), fun h => h.imp id (fun ⟨j, h1, h2⟩ => ?_)⟩⟩
        by_cases hjk : j = k
        · subst hjk; exact absurd ⟨h2.2.1, h2.2.2.1⟩ hin
        · exact ⟨j, by omega, h2⟩
/-- all places' spans -/
theorem R_p134 {ρ0 : RS} {i area : Nat} {f t : Int32} {N : Nat} {S : Nat → Nat} {q : Int32 → Int32} (hN : N ≤ 30) (h0 : ri ρ0 0 = 0) (h1 : ri ρ0 1 = i32 N) (hS : ∀ p, p < N → S p ≤ 4 ∧ ra ρ0 14 p = i32 (S p)) (hq0 : ∀ day, R_M_isAbove (i32 i) (i32 area) day ρ0 = some (q day)) (hq3 : ∀ day, R_M_isAbove (i32 i) (i32 area) day (rpI ρ0 0 3) = some (q day)) (m : Nat) : ∀ (p fuel : Nat), p + m = N → m + 1 < fuel → (RB_M_parent_134 fuel (i32 i) (i32 area) f t (i32 p) (rpI ρ0 0 3) = some ((), rpI ρ0 0 3)) ∧ ∃ b' : Bool, RB_M_parent_134 fuel (i32 i) (i32 area) f t (i32 p) ρ0 = (if b' then some ((), rpI ρ0 0 3) else RB_M_parent_218 (i32 i) (i32 area) f t ρ0) ∧ (b' = true ↔ ∃ p' j, p ≤ p' ∧ p' < N ∧ j < S p' ∧ f ≤ ra ρ0 16 (4 * p' + j) ∧ ra ρ0 16 (4 * p' + j) ≤ t ∧ q (ra ρ0 16 (4 * p' + j)) ≠ 0) := by
  have hC : ∀ p fuel, RB_M_parent_134 (fuel + 1) (i32 i) (i32 area) f t (i32 p) (rpI ρ0 0 3) = some ((), rpI ρ0 0 3) := by
    intro p fuel
    have h218 : RB_M_parent_218 (i32 i) (i32 area) f t (rpI ρ0 0 3) = some ((), rpI ρ0 0 3) := by
      unfold RB_M_parent_218
      rw [if_neg (show ¬ ri (rpI ρ0 0 3) 0 ≤ 0 from by show ¬ (3 : Int32) ≤ 0; decide)]
    show (if ri (rpI ρ0 0 3) 1 ≤ i32 p then RB_M_parent_218 (i32 i) (i32 area) f t (rpI ρ0 0 3) else if ri (rpI ρ0 0 3) 0 = 0 then _ else RB_M_parent_218 (i32 i) (i32 area) f t (rpI ρ0 0 3)) = _
    rw [h218]
    split
    · rfl
    · rw [if_neg (show ¬ ri (rpI ρ0 0 3) 0 = 0 from by show ¬ (3 : Int32) = 0; decide)]
  induction m with
  | zero =>
    intro p fuel hp hf
    cases fuel with
    | zero => omega
    | succ fuel =>
      refine ⟨hC p fuel, false, ?_, ⟨fun h => (by cases h), fun ⟨p', j, h1, h2, _⟩ => by omega⟩⟩
      show (if ri ρ0 1 ≤ i32 p then RB_M_parent_218 (i32 i) (i32 area) f t ρ0 else _) = _
      rw [h1, if_pos ((i32_le (by omega) (by omega)).mpr (by omega))]
      rfl
  | succ m ih =>
    intro p fuel hp hf
    cases fuel with
    | zero => omega
    | succ fuel =>
      obtain ⟨i1, b', i2, i3⟩ := ih (p + 1) fuel (by omega) (by omega)
      obtain ⟨hSp, h14p⟩ := hS p (by omega)
      obtain ⟨b2, p1, p2⟩ := R_p153 (ρ0 := ρ0) (i := i) (area := area) (f := f) (t := t) (N := N) (p := p) (S := S p) (q := q) (by omega) hSp h14p hq0 hq3 (fun v1 v2 v3 v4 v5 ρ => RB_M_parent_134 fuel v1 v2 v3 v4 v5 ρ) (S p) 0 fu false (by omega) (by show S p < 4096; omega)
      have hstep : RB_M_parent_134 (fuel + 1) (i32 i) (i32 area) f t (i32 p) ρ0 = RB_M_parent_134 fuel (i32 i) (i32 area) f t (i32 (p + 1)) (if b2 then rpI ρ0 0 3 else ρ0) := by
        show (if ri ρ0 1 ≤ i32 p then _ else if ri ρ0 0 = 0 then RB_M_parent_153 (fun v1 v2 v3 v4 v5 ρ => RB_M_parent_134 fuel v1 v2 v3 v4 v5 ρ) fu (i32 i) (i32 area) f t (i32 p) 0 ρ0 else _) = _
        rw [h1, if_neg (fun q => by have := (i32_le (by omega) (by omega)).mp q; omega), if_pos h0, show (0 : Int32) = i32 0 from rfl]
        exact p1
      refine ⟨hC p fuel, ?_⟩
      cases b2 with
      | true =>
        refine ⟨true, ?_, ⟨fun _ => ?_, fun _ => rfl⟩⟩
        · rw [hstep]
          exact i1
        · rcases p2.mp rfl with h | ⟨j, j1, j2, j3⟩
          · cases h
          · exact ⟨p, j, Nat.le_refl _, by omega, j2, j3⟩
      | false =>
        refine ⟨b', ?_, i3.trans ⟨fun ⟨p', j, h1, h2⟩ => ⟨p', j, by omega, h2⟩, fun ⟨p', j, h1, h2, h3, h4⟩ => ?_⟩⟩
        · rw [hstep]
          exact i2
        · by_cases hpp : p' = p
          · subst hpp
            have := p2.mpr (.inr ⟨j, Nat.zero_le _, h3, h4⟩)
            cases this
          · exact ⟨p', j, by omega, h2, h3, h4⟩
