/-! errorsTo -/
theorem i32_11 (s k : Nat) : (11 : Int32) * i32 s + i32 k = i32 (11 * s + k) := by
  rw [show (11 : Int32) = i32 11 from rfl, i32_mul, i32_add]
theorem R_cell {ρ : RS} {v1 at' p q i j : Nat} {w u g : Nat → Int32} (hv : v1 ≠ 40) (hw : ∀ k, k < p → ra ρ 39 k = w k) (hu : ∀ k, k < q → ra ρ v1 (at' + k) = u k) (hlen : at' + q ≤ rlen v1) (hbig : rlen v1 < 2 ^ 31) (hp : p ≤ 10) (hq : q ≤ 10) (hi : i ≤ p) (hj : j ≤ q) (hf : ∀ i' j', j' ≤ q → (i' < i ∨ (i' = i ∧ j' < j)) → g (11 * i' + j') = i32 (errE w u i' j')) (k3 : Int32 → Int32 → Int32 → RS → Option (Int32 × RS)) (fuel : Nat) : RB_M_errorsTo_15 v1 k3 (fuel + 1) (i32 at') (i32 q) (i32 i) (i32 j) (rset ρ 40 g) = RB_M_errorsTo_15 v1 k3 fuel (i32 at') (i32 q) (i32 i) (i32 (j + 1)) (rset ρ 40 (upd g (11 * i + j) (i32 (errE w u i j)))) := by
  have g40 : ra (rset ρ 40 g) 40 = g := rfl
  have t40 : ∀ a b, a ≤ 10 → b ≤ 10 → rgI (rset ρ 40 g) 40 121 (i32 (11 * a + b)) = some (g (11 * a + b)) := fun a b ha hb => by rw [rgI_at (by omega) (by decide), g40]
  have t39 : ∀ k, k < p → rgI (rset ρ 40 g) 39 10 (i32 k) = some (w k) := fun k hk => by rw [rgI_at (by omega) (by decide)]; exact congrArg some (hw k hk)
  have tv1 : ∀ k, k < q → rgI (rset ρ 40 g) v1 (rlen v1) (i32 (at' + k)) = some (u k) := fun k hk => by
    rw [rgI_at (by omega) hbig]
    have : ra (rset ρ 40 g) v1 = ra ρ v1 := va_up_ne _ _ hv
    rw [this, hu k hk]
  have h275 : ∀ x : Int32, RB_M_errorsTo_275 v1 k3 (fun v2 v3 v4 v5 ρ => RB_M_errorsTo_15 v1 k3 fuel v2 v3 v4 v5 ρ) (i32 at') (i32 q) (i32 i) (i32 j) x (rset ρ 40 g) = RB_M_errorsTo_15 v1 k3 fuel (i32 at') (i32 q) (i32 i) (i32 (j + 1)) (rset ρ 40 (upd g (11 * i + j) x)) := by
    intro x
    unfold RB_M_errorsTo_275
    rw [i32_11, rsI_at (by omega) (by decide), b1_some, g40, rs2, i32_succ]
  show (if i32 q < i32 j then k3 (i32 at') (i32 q) (i32 i + 1) (rset ρ 40 g) else if i32 i = 0 then RB_M_errorsTo_84 v1 k3 (fun v2 v3 v4 v5 ρ => RB_M_errorsTo_15 v1 k3 fuel v2 v3 v4 v5 ρ) (i32 at') (i32 q) (i32 i) (i32 j) (i32 j) (rset ρ 40 g) else if i32 j = 0 then RB_M_errorsTo_84 v1 k3 (fun v2 v3 v4 v5 ρ => RB_M_errorsTo_15 v1 k3 fuel v2 v3 v4 v5 ρ) (i32 at') (i32 q) (i32 i) (i32 j) (i32 i) (rset ρ 40 g) else b1 (rgI (rset ρ 40 g) 40 121 (((11 * (i32 i - 1)) + i32 j) - 1)) (fun x57 => b1 (rgI (rset ρ 40 g) 39 10 (i32 i - 1)) (fun x66 => b1 (rgI (rset ρ 40 g) v1 (rlen v1) ((i32 at' + i32 j) - 1)) (fun x74 => if x66 = x74 then RB_M_errorsTo_83 v1 k3 (fun v2 v3 v4 v5 ρ => RB_M_errorsTo_15 v1 k3 fuel v2 v3 v4 v5 ρ) (i32 at') (i32 q) (i32 i) (i32 j) x57 0 (rset ρ 40 g) else RB_M_errorsTo_83 v1 k3 (fun v2 v3 v4 v5 ρ => RB_M_errorsTo_15 v1 k3 fuel v2 v3 v4 v5 ρ) (i32 at') (i32 q) (i32 i) (i32 j) x57 1 (rset ρ 40 g))))) = _
  rw [if_neg (fun q => by have := (i32_lt (by omega) (by omega)).mp q; omega)]
  have h222 : ∀ x : Int32, RB_M_errorsTo_222 v1 k3 (fun v2 v3 v4 v5 ρ => RB_M_errorsTo_15 v1 k3 fuel v2 v3 v4 v5 ρ) (i32 at') (i32 q) (i32 i) (i32 j) x (rset ρ 40 g) = RB_M_errorsTo_15 v1 k3 fuel (i32 at') (i32 q) (i32 i) (i32 (j + 1)) (rset ρ 40 (upd g (11 * i + j) x)) := by
    intro x
    unfold RB_M_errorsTo_222 RB_M_errorsTo_223
    rw [if_pos rfl, h275]
  cases i with
  | zero =>
    rw [if_pos (show i32 0 = 0 from rfl)]
    unfold RB_M_errorsTo_84
    rw [if_pos (show i32 0 ≤ 0 from by decide)]
    unfold RB_M_errorsTo_166
    rw [if_pos (show i32 0 ≤ 1 from by decide), h222, errE_0]
  | succ i =>
    rw [if_neg (show ¬ i32 (i + 1) = 0 from fun q => by have := (i32_inj (b := 0) (by omega) (by decide)).mp q; omega)]
    have ni : ¬ i32 (i + 1) ≤ 0 := fun q => by have := (i32_le (b := 0) (by omega) (by decide)).mp q; omega
    cases j with
    | zero =>
      rw [if_pos (show i32 0 = 0 from rfl)]
      unfold RB_M_errorsTo_84
      rw [if_neg ni, if_pos (show i32 0 ≤ 0 from by decide)]
      unfold RB_M_errorsTo_166
      rw [if_pos (show i32 0 ≤ 1 from by decide), ite_self, h222, errE_s0]
    | succ j =>
      have nj : ¬ i32 (j + 1) ≤ 0 := fun q => by have := (i32_le (b := 0) (by omega) (by decide)).mp q; omega
      have b1' := errE_le w u i j
      have b2' := errE_le w u i (j + 1)
      have b3' := errE_le w u (i + 1) j
      have h166 : ∀ X : Nat, X < 100 → X = min (errE w u i j + (if w i = u j then 0 else 1)) (min (errE w u i (j + 1)) (errE w u (i + 1) j) + 1) → RB_M_errorsTo_166 v1 k3 (fun v2 v3 v4 v5 ρ => RB_M_errorsTo_15 v1 k3 fuel v2 v3 v4 v5 ρ) (i32 at') (i32 q) (i32 (i + 1)) (i32 (j + 1)) (i32 X) (rset ρ 40 g) = RB_M_errorsTo_15 v1 k3 fuel (i32 at') (i32 q) (i32 (i + 1)) (i32 (j + 1 + 1)) (rset ρ 40 (upd g (11 * (i + 1) + (j + 1)) (i32 (errE w u (i + 1) (j + 1))))) := by
        intro X hX hX2
        unfold RB_M_errorsTo_166
        by_cases hi1 : i = 0
        · subst hi1
          rw [if_pos (show i32 (0 + 1) ≤ 1 from by decide), h222, errE_s1 _ _ _ _ (.inl rfl), hX2]
        · by_cases hj1 : j = 0
          · subst hj1
            rw [if_neg (show ¬ i32 (i + 1) ≤ 1 from fun q => by have := (i32_le (b := 1) (by omega) (by decide)).mp q; omega), if_pos (show i32 (0 + 1) ≤ 1 from by decide), h222, errE_s1 _ _ _ _ (.inr rfl), hX2]
          · obtain ⟨i2, rfl⟩ : ∃ i2, i = i2 + 1 := ⟨i - 1, by omega⟩
            obtain ⟨j2, rfl⟩ : ∃ j2, j = j2 + 1 := ⟨j - 1, by omega⟩
            have b4' := errE_le w u i2 j2
            rw [if_neg (show ¬ i32 (i2 + 1 + 1) ≤ 1 from fun q => by have := (i32_le (b := 1) (by omega) (by decide)).mp q; omega), if_neg (show ¬ i32 (j2 + 1 + 1) ≤ 1 from fun q => by have := (i32_le (b := 1) (by omega) (by decide)).mp q; omega), i32_m1, t39 (i2 + 1) (by omega), b1_some, i32_add, show at' + (j2 + 1 + 1) = (at' + j2) + 2 by omega, i32_m2, tv1 j2 (by omega), b1_some]
            have e3 : errE w u (i2 + 1 + 1) (j2 + 1 + 1) = _ := errE_sss w u i2 j2
            by_cases c1 : w (i2 + 1) = u j2
            · rw [if_pos c1, i32_m2, t39 i2 (by omega), b1_some, show (at' + j2) + 2 = (at' + (j2 + 1)) + 1 by omega, i32_m1, tv1 (j2 + 1) (by omega), b1_some]
              by_cases c2 : w i2 = u (j2 + 1)
              · rw [if_pos c2]
                unfold RB_M_errorsTo_223
                rw [if_neg (by decide), i32_m2, i32_11, show 11 * i2 + (j2 + 1 + 1) = (11 * i2 + j2) + 2 by omega, i32_m2, t40 i2 j2 (by omega) (by omega), hf i2 j2 (by omega) (by omega), b1_some, i32_succ, b1_some, b0_eq, i32_succ, i32_min2 (by omega) (by omega) (fun x => RB_M_errorsTo_275 v1 k3 (fun v2 v3 v4 v5 ρ => RB_M_errorsTo_15 v1 k3 fuel v2 v3 v4 v5 ρ) (i32 at') (i32 q) (i32 (i2 + 1 + 1)) (i32 (j2 + 1 + 1)) x (rset ρ 40 g)), h275, e3, if_pos ⟨c1, c2⟩, hX2]
              · rw [if_neg c2, h222, e3, if_neg (fun q => c2 q.2), hX2]
            · rw [if_neg c1, h222, e3, if_neg (fun q => c1 q.1), hX2]
      have h84 : ∀ d : Nat, d ≤ 1 → d = (if w i = u j then 0 else 1) → RB_M_errorsTo_83 v1 k3 (fun v2 v3 v4 v5 ρ => RB_M_errorsTo_15 v1 k3 fuel v2 v3 v4 v5 ρ) (i32 at') (i32 q) (i32 (i + 1)) (i32 (j + 1)) (i32 (errE w u i j)) (i32 d) (rset ρ 40 g) = RB_M_errorsTo_15 v1 k3 fuel (i32 at') (i32 q) (i32 (i + 1)) (i32 (j + 1 + 1)) (rset ρ 40 (upd g (11 * (i + 1) + (j + 1)) (i32 (errE w u (i + 1) (j + 1))))) := by
        intro d hd hd2
        unfold RB_M_errorsTo_83 RB_M_errorsTo_84
        rw [i32_add, if_neg ni, if_neg nj, i32_m1, i32_11, t40 i (j + 1) (by omega) (by omega), hf i (j + 1) (by omega) (by omega), b1_some, b0_eq, i32_succ, i32_11, show 11 * (i + 1) + (j + 1) = (11 * (i + 1) + j) + 1 by omega, i32_m1, t40 (i + 1) j (by omega) (by omega), hf (i + 1) j (by omega) (by omega), b1_some, b0_eq, i32_succ]
        rw [i32_min2 (by omega) (by omega) (fun x => RB_M_errorsTo_148 v1 k3 (fun v2 v3 v4 v5 ρ => RB_M_errorsTo_15 v1 k3 fuel v2 v3 v4 v5 ρ) (i32 at') (i32 q) (i32 (i + 1)) (i32 (j + 1)) (i32 (errE w u (i + 1) j + 1)) x (rset ρ 40 g))]
        unfold RB_M_errorsTo_148 RB_M_errorsTo_164
        rw [i32_min2 (by omega) (by omega) (fun x => RB_M_errorsTo_166 v1 k3 (fun v2 v3 v4 v5 ρ => RB_M_errorsTo_15 v1 k3 fuel v2 v3 v4 v5 ρ) (i32 at') (i32 q) (i32 (i + 1)) (i32 (j + 1)) x (rset ρ 40 g))]
        rw [show (11 * (i + 1) + j) + 1 = 11 * (i + 1) + (j + 1) by omega]
        exact h166 _ (by omega) (by rw [← hd2]; omega)
      rw [if_neg (show ¬ i32 (j + 1) = 0 from fun q => by have := (i32_inj (b := 0) (by omega) (by decide)).mp q; omega), i32_m1, i32_11, show 11 * i + (j + 1) = (11 * i + j) + 1 by omega, i32_m1, t40 i j (by omega) (by omega), hf i j (by omega) (by omega), b1_some, t39 i (by omega), b1_some, i32_add, show at' + (j + 1) = (at' + j) + 1 by omega, i32_m1, tv1 j (by omega), b1_some]
      by_cases hwu : w i = u j
      · rw [if_pos hwu]
        exact h84 0 (by omega) (by rw [if_pos hwu])
      · rw [if_neg hwu]
        exact h84 1 (by omega) (by rw [if_neg hwu])
theorem R_row {ρ : RS} {v1 at' p q i : Nat} {w u : Nat → Int32} (hv : v1 ≠ 40) (hw : ∀ k, k < p → ra ρ 39 k = w k) (hu : ∀ k, k < q → ra ρ v1 (at' + k) = u k) (hlen : at' + q ≤ rlen v1) (hbig : rlen v1 < 2 ^ 31) (hp : p ≤ 10) (hq : q ≤ 10) (hi : i ≤ p) (k3 : Int32 → Int32 → Int32 → RS → Option (Int32 × RS)) (m : Nat) : ∀ (j fuel : Nat) (g : Nat → Int32), (∀ i' j', j' ≤ q → (i' < i ∨ (i' = i ∧ j' < j)) → g (11 * i' + j') = i32 (errE w u i' j')) → j + m = q + 1 → m < fuel → ∃ g', RB_M_errorsTo_15 v1 k3 fuel (i32 at') (i32 q) (i32 i) (i32 j) (rset ρ 40 g) = k3 (i32 at') (i32 q) (i32 (i + 1)) (rset ρ 40 g') ∧ ∀ i' j', j' ≤ q → i' < i + 1 → g' (11 * i' + j') = i32 (errE w u i' j') := by
  induction m with
  | zero =>
    intro j fuel g hf hj hfu
    cases fuel with
    | zero => omega
    | succ fuel =>
      refine ⟨g, ?_, fun i' j' h1 h2 => hf i' j' h1 (by omega)⟩
      show (if i32 q < i32 j then k3 (i32 at') (i32 q) (i32 i + 1) (rset ρ 40 g) else _) = _
      rw [if_pos ((i32_lt (by omega) (by omega)).mpr (by omega)), i32_succ]
  | succ m ih =>
    intro j fuel g hf hj hfu
    cases fuel with
    | zero => omega
    | succ fuel =>
      obtain ⟨g', q1, q2⟩ := ih (j + 1) fuel (upd g (11 * i + j) (i32 (errE w u i j))) (fun i' j' h1 h2 => by
        by_cases hh : 11 * i' + j' = 11 * i + j
        · rw [hh, upd_at]
          have : i' = i ∧ j' = j := by omega
          rw [this.1, this.2]
        · rw [upd_ne _ _ hh]
          exact hf i' j' h1 (by
            rcases h2 with h2 | ⟨h2, h3⟩
            · exact .inl h2
            · subst h2
              exact .inr ⟨rfl, by omega⟩)) (by omega) (by omega)
      refine ⟨g', ?_, q2⟩
      rw [R_cell hv hw hu hlen hbig hp hq hi (show j ≤ q by omega) hf k3 fuel, q1]
theorem R_tab {ρ : RS} {v1 at' p q : Nat} {w u : Nat → Int32} (hv : v1 ≠ 40) (h38 : ri ρ 38 = i32 p) (hw : ∀ k, k < p → ra ρ 39 k = w k) (hu : ∀ k, k < q → ra ρ v1 (at' + k) = u k) (hlen : at' + q ≤ rlen v1) (hbig : rlen v1 < 2 ^ 31) (hp : p ≤ 10) (hq : q ≤ 10) (m : Nat) : ∀ (i fuel : Nat) (g : Nat → Int32), (∀ i' j', j' ≤ q → i' < i → g (11 * i' + j') = i32 (errE w u i' j')) → i + m = p + 1 → m < fuel → ∃ g', RB_M_errorsTo_3 v1 fuel (i32 at') (i32 q) (i32 i) (rset ρ 40 g) = some (i32 (errE w u p q), rset ρ 40 g') := by
  induction m with
  | zero =>
    intro i fuel g hf hi hfu
    cases fuel with
    | zero => omega
    | succ fuel =>
      refine ⟨g, ?_⟩
      show (if ri (rset ρ 40 g) 38 < i32 i then b1 (rgI (rset ρ 40 g) 40 121 ((11 * (ri (rset ρ 40 g) 38)) + i32 q)) (fun x315 => some (x315, rset ρ 40 g)) else _) = _
      rw [show ri (rset ρ 40 g) 38 = i32 p from h38, if_pos ((i32_lt (by omega) (by omega)).mpr (by omega)), i32_11, rgI_at (by omega) (by decide), b1_some, show ra (rset ρ 40 g) 40 = g from rfl, hf p q (Nat.le_refl _) (by omega)]
  | succ m ih =>
    intro i fuel g hf hi hfu
    cases fuel with
    | zero => omega
    | succ fuel =>
      obtain ⟨g1, q1, q2⟩ := R_row hv hw hu hlen hbig hp hq (show i ≤ p by omega) (fun v2 v3 v4 ρ => RB_M_errorsTo_3 v1 fuel v2 v3 v4 ρ) (q + 1) 0 fu g (fun i' j' h1 h2 => hf i' j' h1 (by omega)) (by omega) (by show q + 1 < 4096; omega)
      obtain ⟨g', r1⟩ := ih (i + 1) fuel g1 q2 (by omega) (by omega)
      refine ⟨g', ?_⟩
      show (if ri (rset ρ 40 g) 38 < i32 i then _ else RB_M_errorsTo_15 v1 (fun v2 v3 v4 ρ => RB_M_errorsTo_3 v1 fuel v2 v3 v4 ρ) fu (i32 at') (i32 q) (i32 i) 0 (rset ρ 40 g)) = _
      rw [show ri (rset ρ 40 g) 38 = i32 p from h38, if_neg (fun q => by have := (i32_lt (by omega) (by omega)).mp q; omega), show (0 : Int32) = i32 0 from rfl, q1, r1]
theorem R_errorsTo_eq {ρ : RS} {v1 at' p q : Nat} {w u : Nat → Int32} (hv : v1 ≠ 40) (h38 : ri ρ 38 = i32 p) (hw : ∀ k, k < p → ra ρ 39 k = w k) (hu : ∀ k, k < q → ra ρ v1 (at' + k) = u k) (hlen : at' + q ≤ rlen v1) (hbig : rlen v1 < 2 ^ 31) (hp : p ≤ 10) (hq : q ≤ 10) : ∃ g, R_M_errorsTo v1 (i32 at') (i32 q) ρ = some (i32 (errE w u p q), rset ρ 40 g) := by
  have hid : rset ρ 40 (ra ρ 40) = ρ := by
    show (ri ρ, rl ρ, va_up (ra ρ) 40 (ra ρ 40), rL ρ) = ρ
    have : va_up (ra ρ) 40 (ra ρ 40) = ra ρ := by
      funext q
      unfold va_up
      grind
    rw [this]
  have := R_tab hv h38 hw hu hlen hbig hp hq (p + 1) 0 fu (ra ρ 40) (fun i' j' _ h => absurd h (Nat.not_lt_zero i')) (by omega) (by show p + 1 < 4096; omega)
  rw [hid] at this
  exact this
