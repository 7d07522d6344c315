/-! a place's shape and parent on a day, on both sides -/
theorem IZ.cell {ro : Nat → Nat} {μ : Mem} {ρ : RS} {s a : Nat} (h : IZ ro μ ρ s a) : ∃ fs, mF μ a = some (.inr (2, fs)) := by
  obtain ⟨n, h1, h2, h3, h4, h5⟩ := h
  exact h4.co.cell
theorem IP.shape {ro : Nat → Nat} {μ : Mem} {ρ : RS} {pl : Nat → Nat} {N i : Nat} (h : IP ro μ ρ pl N i) (hi : i < 30) (day : Int32) : ∃ (k a : Nat) (o : Bool), S_Pl_shapeOn (some (pl i)) day μ = some (if o then some a else none) ∧ R_M_shapeOf (i32 i) day ρ = some (if o then i32 (3 * i + k) else -1) ∧ S_Pl_isThere (some (pl i)) day μ = some (bI (o = true ∧ ¬ ra ρ 3 i ≤ day)) ∧ R_M_isThere (i32 i) day ρ = some (bI (o = true ∧ ¬ ra ρ 3 i ≤ day)) ∧ k < 3 ∧ (o = true → IZ ro μ ρ (3 * i + k) a) := by
  obtain ⟨sh, sd, nm, lk, h1, h2, h3, h4⟩ := h
  obtain ⟨n, co, D, d1, d2, d3, d4, d5, d6⟩ := h2
  obtain ⟨ad, al⟩ := d3.al
  have q1 := Pl_shapeOn_eq h1.1 al d4.1 d2 (fun k hk => (d6 k hk).cell) day
  have q2 := R_shapeOf_eq (ρ := ρ) hi d1 d2 d5 day
  have q3 := Pl_isThere_eq h1.1 al d4.1 d2 (fun k hk => (d6 k hk).cell) day
  have q4 := R_isThere_eq (ρ := ρ) hi d1 d2 d5 day
  have q5 := onIx_lt D day n 0 none n (by omega) (fun j hj => by cases hj)
  cases ho : onIx D day n 0 none with
  | none =>
    refine ⟨0, 0, false, ?_, ?_, ?_, ?_, by decide, fun q => by cases q⟩
    · rw [q1, ho]; rfl
    · rw [q2, ho]; rfl
    · rw [q3, bI_neg (fun q => q.1 ho), bI_neg (fun q => by cases q.1)]
    · rw [q4, bI_neg (fun q => q.1 ho), bI_neg (fun q => by cases q.1)]
  | some k =>
    have hk := q5 k ho
    refine ⟨k, co k, true, ?_, ?_, ?_, ?_, by omega, fun _ => d6 k hk⟩
    · rw [q1, ho]; rfl
    · rw [q2, ho]; rfl
    · rw [q3]
      by_cases hr : ra ρ 3 i ≤ day
      · rw [bI_neg (fun q => q.2 hr), bI_neg (fun q => q.2 hr)]
      · rw [bI_pos ⟨by rw [ho]; exact nofun, hr⟩, bI_pos ⟨rfl, hr⟩]
    · rw [q4]
      by_cases hr : ra ρ 3 i ≤ day
      · rw [bI_neg (fun q => q.2 hr), bI_neg (fun q => q.2 hr)]
      · rw [bI_pos ⟨by rw [ho]; exact nofun, hr⟩, bI_pos ⟨rfl, hr⟩]
theorem i32_back {n : Nat} {x : Int32} (h : x = i32 n) (hn : n < 2 ^ 31) : x.toNatClampNeg = n := by rw [h, i32_nat hn]
theorem IP.up {ro : Nat → Nat} {μ : Mem} {ρ : RS} {pl : Nat → Nat} {N i : Nat} (h : IP ro μ ρ pl N i) (hN : N ≤ 30) (hA : IA ρ N) (hi : i < N) (day : Int32) : S_Pl_aboveOn (some (pl i)) day μ = some ((upD ρ day i).map pl) ∧ R_M_parentOf (i32 i) day ρ = some (plNo (upD ρ day i)) ∧ ∀ j, upD ρ day i = some j → j < N := by
  obtain ⟨sh, sd, nm, lk, h1, h2, h3, h4⟩ := h
  obtain ⟨n, li, d1, d2, d3, d4⟩ := h4
  obtain ⟨ad, al⟩ := d3.al
  have hn : nSp ρ i = n := i32_back d1 (by omega)
  have hj : ∀ k, k < n → ∃ j, LK0 ro μ (li k) (pl j) (ra ρ 16 (4 * i + k)) (ra ρ 17 (4 * i + k)) ∧ ra ρ 15 (4 * i + k) = i32 j ∧ j < N := d4
  have hp : ∀ k, k < n → (ra ρ 15 (4 * i + k)).toNatClampNeg < N ∧ ra ρ 15 (4 * i + k) = i32 (ra ρ 15 (4 * i + k)).toNatClampNeg ∧ LK5 μ (li k) (pl (ra ρ 15 (4 * i + k)).toNatClampNeg) (ra ρ 16 (4 * i + k)) (ra ρ 17 (4 * i + k)) := by
    intro k hk
    obtain ⟨j, p1, p2, p3⟩ := hj k hk
    rw [i32_back p2 (by omega)]
    exact ⟨p3, p2, p1.1⟩
  have hlt : ∀ (F T : Nat → Int32) (m k : Nat) (cur : Option Nat), (∀ j, cur = some j → j < k + m) → ∀ j, lstIx F T day m k cur = some j → j < k + m := by
    intro F T m
    induction m with
    | zero => intro k cur hc j hj; exact hc j hj
    | succ m ih =>
      intro k cur hc j hj
      have := ih (k + 1) (if F k ≤ day ∧ day ≤ T k then some k else cur) (fun j hj => by
        split at hj
        · cases hj; omega
        · have := hc j hj; omega) j hj
      omega
  have q1 := Pl_aboveOn_eq h1.1 al (li := li) (ab := fun k => pl (ra ρ 15 (4 * i + k)).toNatClampNeg) (F := fun k => ra ρ 16 (4 * i + k)) (T := fun k => ra ρ 17 (4 * i + k)) (fun k hk => (hp k hk).2.2) day
  have q2 := R_parentOf_eq (ρ := ρ) (id := i) (n := n) (P := fun k => ra ρ 15 (4 * i + k)) (F := fun k => ra ρ 16 (4 * i + k)) (T := fun k => ra ρ 17 (4 * i + k)) (by omega) d1 d2 (fun k hk => rfl) (fun k hk => rfl) (fun k hk => rfl) day
  have q3 : lstIx (fun k => ra ρ 16 (4 * i + k)) (fun k => ra ρ 17 (4 * i + k)) day n 0 none = fstIx (fun k => ra ρ 16 (4 * i + k)) (fun k => ra ρ 17 (4 * i + k)) day n 0 := by
    refine lst_fst _ _ day n 0 (fun a b _ ha _ hb ha2 hb2 => ?_)
    refine hA.2.1 i hi a b (by omega) (by omega) (Int32.le_trans ha2.1 hb2.2) (Int32.le_trans hb2.1 ha2.2)
  have hlst := hlt (fun k => ra ρ 16 (4 * i + k)) (fun k => ra ρ 17 (4 * i + k)) n 0 none (fun j hj => by cases hj)
  unfold upD
  rw [hn]
  cases ho : lstIx (fun k => ra ρ 16 (4 * i + k)) (fun k => ra ρ 17 (4 * i + k)) day n 0 none with
  | none =>
    refine ⟨?_, ?_, fun j hj => by cases hj⟩
    · rw [q1, ← q3, ho]; rfl
    · rw [q2, ho]; rfl
  | some k =>
    have hk : k < n := by have := hlst k ho; omega
    refine ⟨?_, ?_, fun j hj => by cases hj; exact (hp k hk).1⟩
    · rw [q1, ← q3, ho]; rfl
    · rw [q2, ho]
      show some (ra ρ 15 (4 * i + k)) = some (i32 (ra ρ 15 (4 * i + k)).toNatClampNeg)
      rw [← (hp k hk).2.1]
