/-! the reference's liesIn and square -/
theorem turn_eq (ax ay bx by' x y : Int32) : ((bx - ax) * (y - ay)) - ((by' - ay) * (x - ax)) = turnF ax ay bx by' x y := by
  unfold turnF
  grind
/-- what the reference asks for the box -/
theorem ref_box (xi xj yi yj x y : Int32) : ((((if xj ≤ xi then xj else xi) ≤ x ∧ x ≤ (if xj ≤ xi then xi else xj)) ∧ ((if yj ≤ yi then yj else yi) ≤ y ∧ y ≤ (if yj ≤ yi then yi else yj))) ↔ boxQ xi xj yi yj x y) := by
  unfold boxQ
  simp only [Int32.lt_iff_toInt_lt, Int32.le_iff_toInt_le]
  constructor
  · rintro ⟨⟨h1, h2⟩, h3, h4⟩
    refine ⟨?_, ?_, ?_, ?_⟩
    · split at h1 <;> split <;> omega
    · split at h2 <;> split <;> omega
    · split at h3 <;> split <;> omega
    · split at h4 <;> split <;> omega
  · rintro ⟨h1, h2, h3, h4⟩
    refine ⟨⟨?_, ?_⟩, ?_, ?_⟩
    · split at h1 <;> split <;> omega
    · split at h2 <;> split <;> omega
    · split at h3 <;> split <;> omega
    · split at h4 <;> split <;> omega
theorem lies_184 {ρ : RS} {k6 : Int32 → Int32 → Int32 → Int32 → Int32 → Option Int32} {v1 x y odd v5 yi yj T : Int32} (hc : ¬ (T = 0 ∧ y < yi ∧ yj ≤ y)) : RB_M_liesIn_184 ρ k6 v1 x y odd v5 yi yj T = k6 v1 x y (if gtI yi y = gtI yj y then odd else if gtI T 0 = gtI yj yi then (if odd = 0 then 1 else 0) else odd) (v5 + 1) := by
  unfold RB_M_liesIn_184 RB_M_liesIn_195 RB_M_liesIn_206 RB_M_liesIn_229 RB_M_liesIn_239 RB_M_liesIn_241 gtI
  have e0 : ∀ a b : Int32, a ≤ b ↔ a.toInt ≤ b.toInt := fun a b => Int32.le_iff_toInt_le
  have e1 : ∀ a b : Int32, a < b ↔ a.toInt < b.toInt := fun a b => Int32.lt_iff_toInt_lt
  have e2 : (T = 0) ↔ T.toInt = 0 := by rw [← Int32.toInt_inj]; rfl
  have e3 : (0 : Int32).toInt = 0 := rfl
  rw [e1, e0, e2] at hc
  by_cases c1 : yi ≤ y <;> by_cases c2 : yj ≤ y
  · simp [c1, c2]
  · have c3 : ¬ yj ≤ yi := by rw [e0] at c1 c2 ⊢; omega
    by_cases c4 : T ≤ 0 <;> by_cases c5 : odd = 0 <;> simp [c1, c2, c3, c4, c5]
  · have c3 : yj ≤ yi := by rw [e0] at c1 c2 ⊢; omega
    have c4 : (0 ≤ T) ↔ ¬ T ≤ 0 := by rw [e0] at c1 c2 ⊢; rw [e0, e3]; omega
    by_cases c6 : T ≤ 0 <;> by_cases c5 : odd = 0 <;> simp [c1, c2, c3, c4, c6, c5]
  · simp [c1, c2]
theorem lies_170 {ρ : RS} {k6 : Int32 → Int32 → Int32 → Int32 → Int32 → Option Int32} {v1 x y odd v5 yi yj T s0 : Int32} : RB_M_liesIn_170 ρ k6 v1 x y odd v5 yi yj T s0 = if T = 0 ∧ ¬ s0 = 0 then some 1 else RB_M_liesIn_184 ρ k6 v1 x y odd v5 yi yj T := by
  unfold RB_M_liesIn_170
  by_cases c1 : T = 0
  · by_cases c2 : s0 = 0
    · rw [if_pos c1, if_pos c2, if_neg (fun q => q.2 c2)]
    · rw [if_pos c1, if_neg c2, if_pos ⟨c1, c2⟩]
      exact gd1
  · rw [if_neg c1, if_neg (fun q => c1 q.1)]
theorem lies_159 {ρ : RS} {k6 : Int32 → Int32 → Int32 → Int32 → Int32 → Option Int32} {v1 x y odd v5 yi yj T a b c : Int32} : RB_M_liesIn_159 ρ k6 v1 x y odd v5 yi yj T a b c = RB_M_liesIn_170 ρ k6 v1 x y odd v5 yi yj T (bI (b ≤ a ∧ a ≤ c)) := by
  unfold RB_M_liesIn_159 RB_M_liesIn_169
  rw [R_in, b1_some, bI_if]
  by_cases h : b ≤ a ∧ a ≤ c
  · rw [if_pos h, bI_pos h]
  · rw [if_neg h, bI_neg h]
theorem lies_145 {ρ : RS} {k6 : Int32 → Int32 → Int32 → Int32 → Int32 → Option Int32} {v1 x y odd v5 yi yj T a b : Int32} : RB_M_liesIn_145 ρ k6 v1 x y odd v5 yi yj T a b = RB_M_liesIn_170 ρ k6 v1 x y odd v5 yi yj T (bI (b ≤ a ∧ a ≤ (if yj ≤ yi then yi else yj))) := by
  unfold RB_M_liesIn_145
  by_cases h : yj ≤ yi
  · simp only [if_pos h, lies_159]
  · simp only [if_neg h, lies_159]
theorem lies_124 {ρ : RS} {k6 : Int32 → Int32 → Int32 → Int32 → Int32 → Option Int32} {v1 x y odd v5 yi yj T a b c : Int32} : RB_M_liesIn_124 ρ k6 v1 x y odd v5 yi yj T a b c = RB_M_liesIn_170 ρ k6 v1 x y odd v5 yi yj T (bI ((b ≤ a ∧ a ≤ c) ∧ ((if yj ≤ yi then yj else yi) ≤ y ∧ y ≤ (if yj ≤ yi then yi else yj)))) := by
  unfold RB_M_liesIn_124 RB_M_liesIn_169
  rw [R_in, b1_some, bI_if]
  by_cases h : b ≤ a ∧ a ≤ c
  · rw [if_pos h]
    have e : ∀ q : Prop, [Decidable q] → bI ((b ≤ a ∧ a ≤ c) ∧ q) = bI q := fun q _ => by
      by_cases hq : q
      · rw [bI_pos hq, bI_pos ⟨h, hq⟩]
      · rw [bI_neg hq, bI_neg (fun z => hq z.2)]
    rw [e]
    by_cases h2 : yj ≤ yi
    · simp only [if_pos h2, lies_145]
    · simp only [if_neg h2, lies_145]
  · rw [if_neg h, bI_neg (fun z => h z.1)]
theorem lies_110 {ρ : RS} {k6 : Int32 → Int32 → Int32 → Int32 → Int32 → Option Int32} {v1 x y odd v5 xi yi xj yj T a b : Int32} : RB_M_liesIn_110 ρ k6 v1 x y odd v5 xi yi xj yj T a b = RB_M_liesIn_170 ρ k6 v1 x y odd v5 yi yj T (bI ((b ≤ a ∧ a ≤ (if xj ≤ xi then xi else xj)) ∧ ((if yj ≤ yi then yj else yi) ≤ y ∧ y ≤ (if yj ≤ yi then yi else yj)))) := by
  unfold RB_M_liesIn_110
  by_cases h : xj ≤ xi
  · simp only [if_pos h, lies_124]
  · simp only [if_neg h, lies_124]
theorem lies_step {ρ : RS} {k6 : Int32 → Int32 → Int32 → Int32 → Int32 → Option Int32} {v1 x y odd v5 xi yi xj yj T : Int32} (hc : ¬ boxQ xi xj yi yj x y → ¬ (T = 0 ∧ y < yi ∧ yj ≤ y)) (hc2 : ¬ T = 0 → True) : (if xj ≤ xi then RB_M_liesIn_110 ρ k6 v1 x y odd v5 xi yi xj yj T x xj else RB_M_liesIn_110 ρ k6 v1 x y odd v5 xi yi xj yj T x xi) = if T = 0 ∧ boxQ xi xj yi yj x y then some 1 else k6 v1 x y (if gtI yi y = gtI yj y then odd else if gtI T 0 = gtI yj yi then (if odd = 0 then 1 else 0) else odd) (v5 + 1) := by
  have e : (if xj ≤ xi then RB_M_liesIn_110 ρ k6 v1 x y odd v5 xi yi xj yj T x xj else RB_M_liesIn_110 ρ k6 v1 x y odd v5 xi yi xj yj T x xi) = RB_M_liesIn_170 ρ k6 v1 x y odd v5 yi yj T (bI (boxQ xi xj yi yj x y)) := by
    have rb := ref_box xi xj yi yj x y
    have e2 : bI (boxQ xi xj yi yj x y) = bI (((if xj ≤ xi then xj else xi) ≤ x ∧ x ≤ (if xj ≤ xi then xi else xj)) ∧ ((if yj ≤ yi then yj else yi) ≤ y ∧ y ≤ (if yj ≤ yi then yi else yj))) := by
      by_cases hq : boxQ xi xj yi yj x y
      · rw [bI_pos hq, bI_pos (rb.mpr hq)]
      · rw [bI_neg hq, bI_neg (fun z => hq (rb.mp z))]
    rw [e2]
    by_cases h : xj ≤ xi
    · simp only [if_pos h, lies_110]
    · simp only [if_neg h, lies_110]
  rw [e, lies_170]
  by_cases ht : T = 0
  · by_cases hb : boxQ xi xj yi yj x y
    · rw [if_pos ⟨ht, by rw [bI_pos hb]; decide⟩, if_pos ⟨ht, hb⟩]
    · rw [if_neg (fun q => q.2 (bI_neg hb)), if_neg (fun q => hb q.2)]
      exact lies_184 (hc hb)
  · rw [if_neg (fun q => ht q.1), if_neg (fun q => ht q.1)]
    exact lies_184 (fun q => ht q.1)
theorem R_lies {ρ : RS} {s n : Nat} {X Y : Nat → Int32} (hs : s < 90) (hn : ra ρ 6 s = i32 n) (h8 : n ≤ 8) (hX : ∀ k, k < n → ra ρ 7 (8 * s + k) = X k) (hY : ∀ k, k < n → ra ρ 8 (8 * s + k) = Y k) (hB : ∀ k, k < n → inB (X k) ∧ inB (Y k)) {x y : Int32} (hx : inB x) (hy : inB y) (m : Nat) : ∀ (k : Nat) (odd : Int32) (fuel : Nat), okZ odd = true → k + m = n → m < fuel → RB_M_liesIn_6 ρ fuel (i32 s) x y odd (i32 k) = some (insF n X Y x y m k odd) := by
  have hr := rgI_at (ρ := ρ) (k := 6) (n := 90) (j := s) hs (by omega)
  rw [hn] at hr
  induction m with
  | zero =>
    intro k odd fuel ho hk hf
    cases fuel with
    | zero => omega
    | succ fuel =>
      show b1 (rgI ρ 6 90 (i32 s)) _ = _
      rw [hr, b1_some, if_pos ((i32_le (by omega) (by omega)).mpr (by omega))]
      exact gd_no (fun q => q ho) _
  | succ m ih =>
    intro k odd fuel ho hk hf
    cases fuel with
    | zero => omega
    | succ fuel =>
      have hk1 : k < n := by omega
      have hj := nxt_lt hk1
      have r1 := rgI_at (ρ := ρ) (k := 7) (n := 720) (j := 8 * s + k) (by omega) (by omega)
      have r2 := rgI_at (ρ := ρ) (k := 8) (n := 720) (j := 8 * s + k) (by omega) (by omega)
      have r3 := rgI_at (ρ := ρ) (k := 7) (n := 720) (j := 8 * s + nxt n k) (by omega) (by omega)
      have r4 := rgI_at (ρ := ρ) (k := 8) (n := 720) (j := 8 * s + nxt n k) (by omega) (by omega)
      rw [hX k hk1] at r1
      rw [hY k hk1] at r2
      rw [hX _ hj] at r3
      rw [hY _ hj] at r4
      rw [← i32_8] at r1 r2 r3 r4
      have ihk := ih (k + 1) _ fuel (flip_ok (X k) (Y k) (X (nxt n k)) (Y (nxt n k)) x y odd ho) (by omega) (by omega)
      show b1 (rgI ρ 6 90 (i32 s)) _ = _
      rw [hr, b1_some, if_neg (fun e => by have := (i32_le (by omega) (by omega)).mp e; omega), b0_eq, b1_some, gd_no (show ¬ (i32 n = 0) from fun e => by have := (i32_inj (a := n) (b := 0) (by omega) (by omega)).mp e; omega), nxt_mod hk1 (by omega), b0_eq, r1, b1_some, r2, b1_some, r3, b1_some, r4, b1_some, insF_succ]
      unfold R_M_turn
      rw [b1_some, turn_eq]
      refine (lies_step (fun hb q => hb (cross_box (hB k hk1).1 (hB k hk1).2 (hB _ hj).1 (hB _ hj).2 hx hy q.1 q.2.1 q.2.2)) (fun _ => trivial)).trans ?_
      by_cases hq : turnF (X k) (Y k) (X (nxt n k)) (Y (nxt n k)) x y = 0 ∧ boxQ (X k) (X (nxt n k)) (Y k) (Y (nxt n k)) x y
      · rw [if_pos hq, if_pos hq]
      · rw [if_neg hq, if_neg hq, i32_succ]
        exact ihk
theorem R_liesIn_eq {ρ : RS} {s n : Nat} {X Y : Nat → Int32} (hs : s < 90) (hn : ra ρ 6 s = i32 n) (h8 : n ≤ 8) (hX : ∀ k, k < n → ra ρ 7 (8 * s + k) = X k) (hY : ∀ k, k < n → ra ρ 8 (8 * s + k) = Y k) (hB : ∀ k, k < n → inB (X k) ∧ inB (Y k)) {x y : Int32} (hx : inB x) (hy : inB y) : R_M_liesIn (i32 s) x y ρ = some (insF n X Y x y n 0 0) :=
  R_lies hs hn h8 hX hY hB hx hy n 0 0 fu (by decide) (by omega) (by unfold fu; omega)
