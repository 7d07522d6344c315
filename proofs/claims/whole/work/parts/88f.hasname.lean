/-! hasName -/
theorem R_hn {ρ0 : RS} {i n m cq : Nat} {ln : Nat → Nat} {u : Nat → Int32} {day : Int32} {ok : Nat → Bool} (hi : i < 30) (hn : n ≤ 2) (hcq : cq < 25) (h9 : ra ρ0 9 i = i32 n) (h12 : ∀ k, k < n → ra ρ0 12 (2 * i + k) = i32 (ln k) ∧ ltr (ln k) (fun j => ra ρ0 13 (10 * (2 * i + k) + j))) (h28 : ra ρ0 28 cq = i32 m) (hu : ∀ j, j < m → ra ρ0 29 (10 * cq + j) = u j) (hlu : ltr m u) (hk : ra ρ0 24 cq = 0 ∨ ra ρ0 24 cq = 1 ∨ ra ρ0 24 cq = 2 ∨ ra ρ0 24 cq = 3) (hok : ∀ k, k < n → (ok k = true ↔ (ra ρ0 10 (2 * i + k) ≤ day ∧ day ≤ ra ρ0 11 (2 * i + k)) ∧ fitQ (ra ρ0 24 cq) (ra ρ0 25 cq) (ln k) (fun j => ra ρ0 13 (10 * (2 * i + k) + j)) m u)) (M : Nat) : ∀ (k fuel : Nat) (b : Bool) (ρ : RS), scR ρ0 ρ → k + M = n → M < fuel → ∃ (ρ' : RS) (b' : Bool), RB_M_hasName_6 fuel (i32 i) day (i32 cq) (if b then 1 else 0) (i32 k) ρ = some ((if b' then 1 else 0), ρ') ∧ scR ρ0 ρ' ∧ (b' = true ↔ b = true ∨ ∃ j, k ≤ j ∧ j < n ∧ ok j = true) := by
  induction M with
  | zero =>
    intro k fuel b ρ hs hk2 hf
    cases fuel with
    | zero => omega
    | succ fuel =>
      refine ⟨ρ, b, ?_, hs, ⟨fun h => .inl h, fun h => h.elim id (fun ⟨j, h1, h2, _⟩ => by omega)⟩⟩
      show b1 (rgI ρ 9 30 (i32 i)) (fun x13 => if x13 ≤ i32 k then gd (¬ okZ (if b then 1 else 0) = true) (some ((if b then (1 : Int32) else 0), ρ)) else _) = _
      rw [rgI_at hi (by decide), hs.2.1 9 (by decide) (by decide), h9, b1_some, if_pos ((i32_le (by omega) (by omega)).mpr (by omega))]
      cases b <;> rfl
  | succ M ih =>
    intro k fuel b ρ hs hk2 hf
    cases fuel with
    | zero => omega
    | succ fuel =>
      have hkn : k < n := by omega
      have e : ∀ j, j ≠ 39 → j ≠ 40 → ra ρ j = ra ρ0 j := hs.2.1
      have expand : RB_M_hasName_6 (fuel + 1) (i32 i) day (i32 cq) (if b then 1 else 0) (i32 k) ρ = if (if b then (1 : Int32) else 0) = 0 then b1 (R_M_isOf (i32 (2 * i + k)) day ρ) (fun x30 => if x30 = 0 then RB_M_hasName_6 fuel (i32 i) day (i32 cq) (if false then 1 else 0) (i32 (k + 1)) ρ else c2 (R_M_isNamed (i32 (2 * i + k)) (i32 cq) ρ) (fun x44 ρ44 => if x44 = 0 then RB_M_hasName_6 fuel (i32 i) day (i32 cq) (if false then 1 else 0) (i32 (k + 1)) ρ44 else RB_M_hasName_6 fuel (i32 i) day (i32 cq) (if true then 1 else 0) (i32 (k + 1)) ρ44)) else RB_M_hasName_6 fuel (i32 i) day (i32 cq) (if true then 1 else 0) (i32 (k + 1)) ρ := by
        show b1 (rgI ρ 9 30 (i32 i)) (fun x13 => if x13 ≤ i32 k then _ else if (if b then (1 : Int32) else 0) = 0 then b1 (R_M_isOf ((2 * i32 i) + i32 k) day ρ) (fun x30 => if x30 = 0 then RB_M_hasName_6 fuel (i32 i) day (i32 cq) 0 (i32 k + 1) ρ else c2 (R_M_isNamed ((2 * i32 i) + i32 k) (i32 cq) ρ) (fun x44 ρ44 => if x44 = 0 then RB_M_hasName_6 fuel (i32 i) day (i32 cq) 0 (i32 k + 1) ρ44 else RB_M_hasName_6 fuel (i32 i) day (i32 cq) 1 (i32 k + 1) ρ44)) else RB_M_hasName_6 fuel (i32 i) day (i32 cq) 1 (i32 k + 1) ρ) = _
        rw [rgI_at hi (by decide), e 9 (by decide) (by decide), h9, b1_some, if_neg (fun q => by have := (i32_le (by omega) (by omega)).mp q; omega), i32_2, i32_succ]
        rfl
      rw [expand]
      cases b with
      | true =>
        rw [if_neg (by decide)]
        obtain ⟨ρ', b', p1, p2, p3⟩ := ih (k + 1) fuel true ρ hs (by omega) (by omega)
        exact ⟨ρ', b', p1, p2, ⟨fun _ => .inl rfl, fun _ => p3.mpr (.inl rfl)⟩⟩
      | false =>
        rw [if_pos (by decide), R_isOf_eq (by omega), e 10 (by decide) (by decide), e 11 (by decide) (by decide), b1_some]
        have skip : ∀ ρ1, scR ρ0 ρ1 → ¬ ok k = true → ∃ (ρ' : RS) (b' : Bool), RB_M_hasName_6 fuel (i32 i) day (i32 cq) (if false then 1 else 0) (i32 (k + 1)) ρ1 = some ((if b' then 1 else 0), ρ') ∧ scR ρ0 ρ' ∧ (b' = true ↔ false = true ∨ ∃ j, k ≤ j ∧ j < n ∧ ok j = true) := by
          intro ρ1 hs1 hno
          obtain ⟨ρ', b', p1, p2, p3⟩ := ih (k + 1) fuel false ρ1 hs1 (by omega) (by omega)
          refine ⟨ρ', b', p1, p2, p3.trans ⟨fun h => h.imp id (fun ⟨j, h1, h2⟩ => ⟨j, by omega, h2⟩), fun h => h.imp id (fun ⟨j, h1, h2, h3⟩ => ?_)⟩⟩
          by_cases hjk : j = k
          · subst hjk; exact absurd h3 hno
          · exact ⟨j, by omega, h2, h3⟩
        by_cases ho : ra ρ0 10 (2 * i + k) ≤ day ∧ day ≤ ra ρ0 11 (2 * i + k)
        · rw [if_neg (by rw [bI_pos ho]; decide)]
          obtain ⟨l1, l2⟩ := h12 k hkn
          obtain ⟨ρ1, r, f1, f2, f3⟩ := R_isNamed_eq (ρ := ρ) (q := 2 * i + k) (cq := cq) (len := ln k) (m := m) (w := fun j => ra ρ0 13 (10 * (2 * i + k) + j)) (u := u) (by omega) hcq (by rw [e 12 (by decide) (by decide)]; exact l1) (by rw [e 28 (by decide) (by decide)]; exact h28) (fun j _ => by rw [e 13 (by decide) (by decide)]) (fun j hj => by rw [e 29 (by decide) (by decide)]; exact hu j hj) l2 hlu (by rw [e 24 (by decide) (by decide)]; exact hk)
          rw [e 24 (by decide) (by decide), e 25 (by decide) (by decide)] at f2
          rw [f1]
          show ∃ (ρ' : RS) (b' : Bool), (if r = 0 then RB_M_hasName_6 fuel (i32 i) day (i32 cq) (if false then 1 else 0) (i32 (k + 1)) ρ1 else RB_M_hasName_6 fuel (i32 i) day (i32 cq) (if true then 1 else 0) (i32 (k + 1)) ρ1) = _ ∧ _
          by_cases hr : r = 0
          · rw [if_pos hr]
            exact skip ρ1 (hs.tr f3) (fun q => (f2.mp hr) ((hok k hkn).mp q).2)
          · rw [if_neg hr]
            have hokt : ok k = true := (hok k hkn).mpr ⟨ho, Classical.byContradiction (fun q => hr (f2.mpr q))⟩
            obtain ⟨ρ', b', p1, p2, p3⟩ := ih (k + 1) fuel true ρ1 (hs.tr f3) (by omega) (by omega)
            exact ⟨ρ', b', p1, p2, ⟨fun _ => .inr ⟨k, Nat.le_refl _, hkn, hokt⟩, fun _ => p3.mpr (.inl rfl)⟩⟩
        · rw [if_pos (bI_neg ho)]
          exact skip ρ hs (fun q => ho ((hok k hkn).mp q).1)
