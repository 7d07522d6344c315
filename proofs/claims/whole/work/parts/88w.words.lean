/-! compareWords, the first condition of a kind -/
theorem sub_sg {a b : Int32} (ha : 0 ≤ a.toInt ∧ a.toInt ≤ 1000) (hb : 0 ≤ b.toInt ∧ b.toInt ≤ 1000) : (a - b < 0 ↔ a.toInt < b.toInt) ∧ (0 < a - b ↔ b.toInt < a.toInt) := by
  have h := sub_int (a := a) (b := b) (by omega) (by omega)
  rw [Int32.lt_iff_toInt_lt, Int32.lt_iff_toInt_lt, h, Int32.toInt_zero]
  omega
theorem lex_zero (D E : Nat → Nat) (m k : Nat) (h : ∀ j, k ≤ j → D j = E j) : lexLt D E m k = false ∧ lexLt E D m k = false := (lex_eq D E m k).mpr (fun j h1 _ => h j h1)
theorem cw_53 {ρ : RS} {p q n n' k : Nat} {w u : Nat → Int32} (hp : p < 60) (hq : q < 60) (h12 : ra ρ 12 p = i32 n) (h12' : ra ρ 12 q = i32 n') (hw : ∀ j, ra ρ 13 (10 * p + j) = w j) (hu : ∀ j, ra ρ 13 (10 * q + j) = u j) (hlw : ltr n w) (hlu : ltr n' u) (hkn : k ≤ n) (hkn' : k ≤ n') (M : Nat) (he : n = k ∨ n' = k ∨ w k ≠ u k) : ∃ x, RB_M_compareWords_53 ρ (i32 p) (i32 q) (i32 k) = some x ∧ (x < 0 ↔ lexLt (dig n (dgt w)) (dig n' (dgt u)) (M + 1) k = true) ∧ (0 < x ↔ lexLt (dig n' (dgt u)) (dig n (dgt w)) (M + 1) k = true) := by
  have b1' := hlw.1
  have b2' := hlu.1
  have r1 : rgI ρ 12 60 (i32 p) = some (i32 n) := by rw [rgI_at hp (by decide), h12]
  have r2 : rgI ρ 12 60 (i32 q) = some (i32 n') := by rw [rgI_at hq (by decide), h12']
  have h73 : RB_M_compareWords_73 ρ (i32 p) (i32 q) = some (i32 n - i32 n') := by
    unfold RB_M_compareWords_73
    rw [r1, b1_some, r2, b1_some]
  have sg := sub_sg (a := i32 n) (b := i32 n') (by rw [i32_int (by omega)]; omega) (by rw [i32_int (by omega)]; omega)
  rw [i32_int (by omega), i32_int (by omega)] at sg
  have lx : ∀ D E : Nat → Nat, lexLt D E (M + 1) k = if D k = E k then lexLt D E M (k + 1) else decide (D k < E k) := fun _ _ => rfl
  unfold RB_M_compareWords_53
  rw [r1, b1_some]
  by_cases c1 : n = k
  · rw [if_pos (by rw [c1]), h73]
    refine ⟨_, rfl, sg.1.trans ?_, sg.2.trans ?_⟩
    all_goals
      by_cases c2 : n' = k
      · have hz := lex_zero (dig n (dgt w)) (dig n' (dgt u)) (M + 1) k (fun j hj => by unfold dig; rw [if_neg (by omega), if_neg (by omega)])
        first | rw [hz.1] | rw [hz.2]
        constructor
        · intro h; omega
        · intro h; cases h
      · rw [lx]
        have d1 : dig n (dgt w) k = 0 := by unfold dig; rw [if_neg (by omega)]
        have d2 : 0 < dig n' (dgt u) k := by unfold dig; rw [if_pos (by omega)]; omega
        rw [if_neg (by omega), decide_eq_true_iff]
        omega
  · rw [if_neg (fun z => c1 ((i32_inj (by omega) (by omega)).mp z).symm), r2, b1_some]
    by_cases c2 : n' = k
    · rw [if_pos (by rw [c2]), h73]
      have d1 : 0 < dig n (dgt w) k := by unfold dig; rw [if_pos (by omega)]; omega
      have d2 : dig n' (dgt u) k = 0 := by unfold dig; rw [if_neg (by omega)]
      refine ⟨_, rfl, sg.1.trans ?_, sg.2.trans ?_⟩
      · rw [lx, if_neg (by omega), decide_eq_true_iff]
        omega
      · rw [lx, if_neg (by omega), decide_eq_true_iff]
        omega
    · rw [if_neg (fun z => c2 ((i32_inj (by omega) (by omega)).mp z).symm), i32_10, i32_10, rgI_at (by omega) (by decide), b1_some, rgI_at (by omega) (by decide), b1_some, hw, hu]
      have hne : w k ≠ u k := (he.resolve_left c1).resolve_left c2
      have lw := hlw.2 k (by omega)
      have lu := hlu.2 k (by omega)
      have sg2 := sub_sg (a := w k) (b := u k) (by omega) (by omega)
      have hne2 : (w k).toInt ≠ (u k).toInt := fun z => hne (Int32.toInt_inj.mp z)
      have d1 : dig n (dgt w) k = (w k).toInt.toNat - 97 + 1 := by unfold dig; rw [if_pos (by omega)]; rfl
      have d2 : dig n' (dgt u) k = (u k).toInt.toNat - 97 + 1 := by unfold dig; rw [if_pos (by omega)]; rfl
      refine ⟨_, rfl, sg2.1.trans ?_, sg2.2.trans ?_⟩
      · rw [lx, if_neg (by omega), decide_eq_true_iff]
        omega
      · rw [lx, if_neg (by omega), decide_eq_true_iff]
        omega
theorem cw_loop {ρ : RS} {p q n n' : Nat} {w u : Nat → Int32} (hp : p < 60) (hq : q < 60) (h12 : ra ρ 12 p = i32 n) (h12' : ra ρ 12 q = i32 n') (hw : ∀ j, ra ρ 13 (10 * p + j) = w j) (hu : ∀ j, ra ρ 13 (10 * q + j) = u j) (hlw : ltr n w) (hlu : ltr n' u) (M : Nat) : ∀ (k fuel : Nat), k ≤ n → k ≤ n' → k + M = 10 → M < fuel → ∃ x, RB_M_compareWords_2 ρ fuel (i32 p) (i32 q) (i32 k) = some x ∧ (x < 0 ↔ lexLt (dig n (dgt w)) (dig n' (dgt u)) (M + 1) k = true) ∧ (0 < x ↔ lexLt (dig n' (dgt u)) (dig n (dgt w)) (M + 1) k = true) := by
  have b1' := hlw.1
  have b2' := hlu.1
  have r1 : rgI ρ 12 60 (i32 p) = some (i32 n) := by rw [rgI_at hp (by decide), h12]
  have r2 : rgI ρ 12 60 (i32 q) = some (i32 n') := by rw [rgI_at hq (by decide), h12']
  induction M with
  | zero =>
    intro k fuel hkn hkn' hk hf
    cases fuel with
    | zero => omega
    | succ fuel =>
      have e : RB_M_compareWords_2 ρ (fuel + 1) (i32 p) (i32 q) (i32 k) = RB_M_compareWords_53 ρ (i32 p) (i32 q) (i32 k) := by
        show b1 (rgI ρ 12 60 (i32 p)) (fun x8 => if x8 ≤ i32 k then _ else _) = _
        rw [r1, b1_some, if_pos ((i32_le (by omega) (by omega)).mpr (by omega))]
      rw [e]
      exact cw_53 hp hq h12 h12' hw hu hlw hlu hkn hkn' 0 (by omega)
  | succ M ih =>
    intro k fuel hkn hkn' hk hf
    cases fuel with
    | zero => omega
    | succ fuel =>
      have e : RB_M_compareWords_2 ρ (fuel + 1) (i32 p) (i32 q) (i32 k) = if i32 n ≤ i32 k then RB_M_compareWords_53 ρ (i32 p) (i32 q) (i32 k) else if i32 n' ≤ i32 k then RB_M_compareWords_53 ρ (i32 p) (i32 q) (i32 k) else b1 (rgI ρ 13 600 ((10 * i32 p) + i32 k)) (fun x32 => b1 (rgI ρ 13 600 ((10 * i32 q) + i32 k)) (fun x43 => if x32 = x43 then RB_M_compareWords_2 ρ fuel (i32 p) (i32 q) (i32 (k + 1)) else RB_M_compareWords_53 ρ (i32 p) (i32 q) (i32 k))) := by
        show b1 (rgI ρ 12 60 (i32 p)) (fun x8 => if x8 ≤ i32 k then RB_M_compareWords_53 ρ (i32 p) (i32 q) (i32 k) else b1 (rgI ρ 12 60 (i32 q)) (fun x18 => if x18 ≤ i32 k then RB_M_compareWords_53 ρ (i32 p) (i32 q) (i32 k) else b1 (rgI ρ 13 600 ((10 * i32 p) + i32 k)) (fun x32 => b1 (rgI ρ 13 600 ((10 * i32 q) + i32 k)) (fun x43 => if x32 = x43 then RB_M_compareWords_2 ρ fuel (i32 p) (i32 q) (i32 k + 1) else RB_M_compareWords_53 ρ (i32 p) (i32 q) (i32 k))))) = _
        rw [r1, b1_some, r2, b1_some, i32_succ]
      rw [e]
      by_cases c1 : n = k
      · rw [if_pos ((i32_le (by omega) (by omega)).mpr (by omega))]
        exact cw_53 hp hq h12 h12' hw hu hlw hlu hkn hkn' _ (by omega)
      · rw [if_neg (fun z => by have := (i32_le (by omega) (by omega)).mp z; omega)]
        by_cases c2 : n' = k
        · rw [if_pos ((i32_le (by omega) (by omega)).mpr (by omega))]
          exact cw_53 hp hq h12 h12' hw hu hlw hlu hkn hkn' _ (by omega)
        · rw [if_neg (fun z => by have := (i32_le (by omega) (by omega)).mp z; omega), i32_10, i32_10, rgI_at (by omega) (by decide), b1_some, rgI_at (by omega) (by decide), b1_some, hw, hu]
          by_cases c3 : w k = u k
          · rw [if_pos c3]
            obtain ⟨x, x1, x2, x3⟩ := ih (k + 1) fuel (by omega) (by omega) (by omega) (by omega)
            have d : dig n (dgt w) k = dig n' (dgt u) k := by
              unfold dig dgt
              rw [if_pos (by omega), if_pos (by omega), c3]
            refine ⟨x, x1, x2.trans ?_, x3.trans ?_⟩
            · show _ ↔ (if dig n (dgt w) k = dig n' (dgt u) k then lexLt (dig n (dgt w)) (dig n' (dgt u)) (M + 1) (k + 1) else _) = true
              rw [if_pos d]
            · show _ ↔ (if dig n' (dgt u) k = dig n (dgt w) k then lexLt (dig n' (dgt u)) (dig n (dgt w)) (M + 1) (k + 1) else _) = true
              rw [if_pos d.symm]
          · rw [if_neg c3]
            exact cw_53 hp hq h12 h12' hw hu hlw hlu hkn hkn' _ (.inr (.inr c3))
def nrk (ρ : RS) (q len : Nat) : Nat := rkN len (dgt (fun j => ra ρ 13 (10 * q + j))) 10 0 0
theorem dig_hi {n : Nat} {d : Nat → Nat} (h : n ≤ 10) : dig n d 10 = 0 := by
  unfold dig
  rw [if_neg (by omega)]
theorem lex_more {D E : Nat → Nat} (hD : D 10 = E 10) (m : Nat) : ∀ k, k + m = 10 → lexLt D E (m + 1) k = lexLt D E m k := by
  induction m with
  | zero =>
    intro k hk
    show (if D k = E k then false else decide (D k < E k)) = false
    rw [show k = 10 by omega, if_pos hD]
  | succ m ih =>
    intro k hk
    show (if D k = E k then lexLt D E (m + 1) (k + 1) else decide (D k < E k)) = (if D k = E k then lexLt D E m (k + 1) else decide (D k < E k))
    rw [ih (k + 1) (by omega)]
theorem dgt_lt {n : Nat} {w : Nat → Int32} (h : ltr n w) (k : Nat) (hk : k < n) : dgt w k < 26 := by
  have := h.2 k hk
  unfold dgt
  omega
theorem compareWords_eq {ρ : RS} {p q n n' : Nat} (hp : p < 60) (hq : q < 60) (h12 : ra ρ 12 p = i32 n) (h12' : ra ρ 12 q = i32 n') (hlw : ltr n (fun j => ra ρ 13 (10 * p + j))) (hlu : ltr n' (fun j => ra ρ 13 (10 * q + j))) : ∃ x, R_M_compareWords (i32 p) (i32 q) ρ = some x ∧ (x < 0 ↔ nrk ρ p n < nrk ρ q n') ∧ (0 < x ↔ nrk ρ q n' < nrk ρ p n) := by
  obtain ⟨x, x1, x2, x3⟩ := cw_loop hp hq h12 h12' (fun _ => rfl) (fun _ => rfl) hlw hlu 10 0 fu (Nat.zero_le _) (Nat.zero_le _) rfl (by decide)
  refine ⟨x, x1, x2.trans ?_, x3.trans ?_⟩
  · rw [lex_more (by rw [dig_hi hlw.1, dig_hi hlu.1]) 10 0 rfl]
    exact (rk_lex (dgt_lt hlw) (dgt_lt hlu) 10 0).symm
  · rw [lex_more (by rw [dig_hi hlw.1, dig_hi hlu.1]) 10 0 rfl]
    exact (rk_lex (dgt_lt hlu) (dgt_lt hlw) 10 0).symm
/-- the reference's first condition with a kind from lo to hi -/
def fsT (p : Nat → Prop) (n : Nat) (r : Int32) : Prop := (r = -1 ∧ ∀ j, j < n → ¬ p j) ∨ ∃ q, q < n ∧ r = i32 q ∧ p q ∧ ∀ j, j < q → ¬ p j
theorem R_fc {ρ : RS} {n : Nat} {lo hi : Int32} (h5 : n ≤ 5) (M : Nat) : ∀ (fuel : Nat) (r : Int32), M ≤ n → M < fuel → ((r = -1 ∧ ∀ j, M ≤ j → j < n → ¬ (lo ≤ ra ρ 24 j ∧ ra ρ 24 j ≤ hi)) ∨ ∃ q, M ≤ q ∧ q < n ∧ r = i32 q ∧ (lo ≤ ra ρ 24 q ∧ ra ρ 24 q ≤ hi) ∧ ∀ j, M ≤ j → j < q → ¬ (lo ≤ ra ρ 24 j ∧ ra ρ 24 j ≤ hi)) → ∃ r', RB_M_firstCondition_12 ρ fuel lo hi r (i32 M - 1) = some r' ∧ fsT (fun j => lo ≤ ra ρ 24 j ∧ ra ρ 24 j ≤ hi) n r' := by
  induction M with
  | zero =>
    intro fuel r hM hf h
    cases fuel with
    | zero => omega
    | succ fuel =>
      refine ⟨r, ?_, ?_⟩
      · show (if i32 0 - 1 < 0 then some r else _) = _
        rw [if_pos (by decide)]
      · rcases h with ⟨h1, h2⟩ | ⟨q, h1, h2, h3, h4, h5⟩
        · exact .inl ⟨h1, fun j hj => h2 j (Nat.zero_le _) hj⟩
        · exact .inr ⟨q, h2, h3, h4, fun j hj => h5 j (Nat.zero_le _) hj⟩
  | succ M ih =>
    intro fuel r hM hf h
    cases fuel with
    | zero => omega
    | succ fuel =>
      have e : RB_M_firstCondition_12 ρ (fuel + 1) lo hi r (i32 (M + 1) - 1) = if bI (lo ≤ ra ρ 24 M ∧ ra ρ 24 M ≤ hi) = 0 then RB_M_firstCondition_12 ρ fuel lo hi r (i32 M - 1) else RB_M_firstCondition_12 ρ fuel lo hi (i32 M) (i32 M - 1) := by
        rw [i32_m1]
        show (if i32 M < 0 then _ else b1 (rgI ρ 24 25 (i32 M)) (fun x23 => b1 (R_M_in x23 lo hi) (fun x26 => if x26 = 0 then RB_M_firstCondition_12 ρ fuel lo hi r (i32 M + (-1)) else RB_M_firstCondition_12 ρ fuel lo hi (i32 M) (i32 M + (-1))))) = _
        rw [if_neg (i32_nn (by omega)), rgI_at (by omega) (by decide), b1_some, R_in, b1_some, ← Int32.sub_eq_add_neg]
      rw [e]
      by_cases hp : lo ≤ ra ρ 24 M ∧ ra ρ 24 M ≤ hi
      · rw [if_neg (by rw [bI_pos hp]; decide)]
        exact ih fuel (i32 M) (by omega) (by omega) (.inr ⟨M, Nat.le_refl _, by omega, rfl, hp, fun j h1 h2 => by omega⟩)
      · rw [if_pos (bI_neg hp)]
        refine ih fuel r (by omega) (by omega) ?_
        rcases h with ⟨h1, h2⟩ | ⟨q, h1, h2, h3, h4, h5⟩
        · refine .inl ⟨h1, fun j hj hj2 => ?_⟩
          by_cases c : j = M
          · rw [c]; exact hp
          · exact h2 j (by omega) hj2
        · refine .inr ⟨q, by omega, h2, h3, h4, fun j hj hj2 => ?_⟩
          by_cases c : j = M
          · rw [c]; exact hp
          · exact h5 j (by omega) hj2
theorem R_first_eq {ρ : RS} {n : Nat} (lo hi : Int32) (h5 : n ≤ 5) (h23 : ra ρ 23 0 = i32 n) : ∃ r, R_M_firstCondition lo hi ρ = some r ∧ fsT (fun j => lo ≤ ra ρ 24 j ∧ ra ρ 24 j ≤ hi) n r := by
  obtain ⟨r, r1, r2⟩ := R_fc (ρ := ρ) (lo := lo) (hi := hi) h5 n fu (-1) (Nat.le_refl _) (by show n < 4096; omega) (.inl ⟨rfl, fun j h1 h2 => by omega⟩)
  refine ⟨r, ?_, r2⟩
  unfold R_M_firstCondition
  rw [b0_eq, show (0 : Int32) = i32 0 from rfl, rgI_at (by decide) (by decide), h23, b1_some, b0_eq, r1]
theorem fsT.iff {p p' : Nat → Prop} {n : Nat} {r : Int32} (h : fsT p n r) (e : ∀ j, j < n → (p j ↔ p' j)) : fsT p' n r := by
  rcases h with ⟨h1, h2⟩ | ⟨q, h1, h2, h3, h4⟩
  · exact .inl ⟨h1, fun j hj z => h2 j hj ((e j hj).mpr z)⟩
  · exact .inr ⟨q, h1, h2, (e q h1).mp h3, fun j hj z => h4 j hj ((e j (by omega)).mpr z)⟩
