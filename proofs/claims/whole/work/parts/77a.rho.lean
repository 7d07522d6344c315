/-! what the ties read of the reference, place by place -/
theorem ltr.fn {n : Nat} {w w' : Nat → Int32} (h : ltr n w) (e : ∀ k, k < n → w' k = w k) : ltr n w' := ⟨h.1, fun k hk => by rw [e k hk]; exact h.2 k hk⟩
theorem CN0.fn {ro : Nat → Nat} {μ : Mem} {a n : Nat} {kind x y z : Int32} {w w' : Nat → Int32} (h : CN0 ro μ a kind x y z n w) (hw : ∀ k, k < n → w k = w' k) : CN0 ro μ a kind x y z n w' := by
  obtain ⟨wo, h1, h2⟩ := h
  exact ⟨wo, h1, h2.fn hw⟩
theorem NA0.fn {ro : Nat → Nat} {μ : Mem} {a n : Nat} {f t : Int32} {w w' : Nat → Int32} (h : NA0 ro μ a f t n w) (hw : ∀ k, k < n → w k = w' k) : NA0 ro μ a f t n w' := by
  obtain ⟨wo, h1, h2⟩ := h
  exact ⟨wo, h1, h2.fn hw⟩
theorem IQ.rho {ro : Nat → Nat} {μ : Mem} {ρ ρ' : RS} {N N' q q' a : Nat} (h : IQ ro μ ρ N q a) (hN : N ≤ N') (e24 : ra ρ' 24 q' = ra ρ 24 q) (e25 : ra ρ' 25 q' = ra ρ 25 q) (e26 : ra ρ' 26 q' = ra ρ 26 q) (e27 : ra ρ' 27 q' = ra ρ 27 q) (e28 : ra ρ' 28 q' = ra ρ 28 q) (e29 : ∀ j, j < 10 → ra ρ' 29 (10 * q' + j) = ra ρ 29 (10 * q + j)) : IQ ro μ ρ' N' q' a := by
  obtain ⟨len, h1, h2, h3, h4⟩ := h
  have hl := h4.1
  refine ⟨len, ?_, by rw [e28]; exact h2, ?_, h4.fn (fun k hk => e29 k (by omega))⟩
  · rw [e24, e25, e26, e27]
    exact h1.fn (fun k hk => (e29 k (by omega)).symm)
  · rw [e24, e25, e26, e27]
    unfold condQ at h3 ⊢
    rcases h3 with h3 | h3 | h3 | ⟨h3, i, h5, h6⟩ | h3
    · exact .inl h3
    · exact .inr (.inl h3)
    · exact .inr (.inr (.inl h3))
    · exact .inr (.inr (.inr (.inl ⟨h3, i, by omega, h6⟩)))
    · exact .inr (.inr (.inr (.inr h3)))
theorem IC.rho {ro : Nat → Nat} {μ : Mem} {ρ ρ' : RS} {N N' s l r : Nat} (h : IC ro μ ρ N s l r) (hN : N ≤ N') (e23 : ra ρ' 23 s = ra ρ 23 s) (e : ∀ k, k < 5 → ra ρ' 24 (5 * s + k) = ra ρ 24 (5 * s + k) ∧ ra ρ' 25 (5 * s + k) = ra ρ 25 (5 * s + k) ∧ ra ρ' 26 (5 * s + k) = ra ρ 26 (5 * s + k) ∧ ra ρ' 27 (5 * s + k) = ra ρ 27 (5 * s + k) ∧ ra ρ' 28 (5 * s + k) = ra ρ 28 (5 * s + k) ∧ ∀ j, j < 10 → ra ρ' 29 (10 * (5 * s + k) + j) = ra ρ 29 (10 * (5 * s + k) + j)) : IC ro μ ρ' N' s l r := by
  obtain ⟨n, cq, h1, h2, h3, h4⟩ := h
  refine ⟨n, cq, by rw [e23]; exact h1, h2, h3, fun k hk => ?_⟩
  obtain ⟨g1, g2, g3, g4, g5, g6⟩ := e k (by omega)
  exact (h4 k hk).rho hN g1 g2 g3 g4 g5 g6
theorem IR.rho {ro : Nat → Nat} {μ : Mem} {ρ ρ' : RS} {s a : Nat} (h : IR ro μ ρ s a) (e30 : ra ρ' 30 s = ra ρ 30 s) (e : ∀ k, k < 8 → ra ρ' 31 (8 * s + k) = ra ρ 31 (8 * s + k) ∧ ra ρ' 32 (8 * s + k) = ra ρ 32 (8 * s + k)) : IR ro μ ρ' s a := by
  obtain ⟨n, h1, h2, h3, h4⟩ := h
  refine ⟨n, by rw [e30]; exact h1, h2, h3.fn (fun k hk => ⟨(e k (by omega)).1.symm, (e k (by omega)).2.symm⟩), fun k hk => ?_⟩
  rw [(e k (by omega)).1, (e k (by omega)).2]
  exact h4 k hk
theorem IW1.rho {ro : Nat → Nat} {μ : Mem} {ρ ρ' : RS} {N N' w : Nat} {o : Option Nat} (h : IW1 ro μ ρ N w o) (hN : N ≤ N') (e34 : ra ρ' 34 (w + 1) = ra ρ 34 (w + 1)) (e33 : ra ρ' 33 (w + 1) = ra ρ 33 (w + 1)) (e35 : ra ρ' 35 (w + 1) = ra ρ 35 (w + 1)) (e23 : ra ρ' 23 (w + 1) = ra ρ 23 (w + 1)) (e : ∀ k, k < 5 → ra ρ' 24 (5 * (w + 1) + k) = ra ρ 24 (5 * (w + 1) + k) ∧ ra ρ' 25 (5 * (w + 1) + k) = ra ρ 25 (5 * (w + 1) + k) ∧ ra ρ' 26 (5 * (w + 1) + k) = ra ρ 26 (5 * (w + 1) + k) ∧ ra ρ' 27 (5 * (w + 1) + k) = ra ρ 27 (5 * (w + 1) + k) ∧ ra ρ' 28 (5 * (w + 1) + k) = ra ρ 28 (5 * (w + 1) + k) ∧ ∀ j, j < 10 → ra ρ' 29 (10 * (5 * (w + 1) + k) + j) = ra ρ 29 (10 * (5 * (w + 1) + k) + j)) (e30 : ra ρ' 30 (w + 1) = ra ρ 30 (w + 1)) (f : ∀ k, k < 8 → ra ρ' 31 (8 * (w + 1) + k) = ra ρ 31 (8 * (w + 1) + k) ∧ ra ρ' 32 (8 * (w + 1) + k) = ra ρ 32 (8 * (w + 1) + k)) : IW1 ro μ ρ' N' w o := by
  rcases h with h | ⟨g1, a, l, t, g2, g3, g4, g5⟩
  · exact .inl ⟨e34.trans h.1, h.2⟩
  · refine .inr ⟨e34.trans g1, a, l, t, g2, ?_, g4.rho hN e23 e, g5.rho e30 f⟩
    rw [e33, e35]
    exact g3
theorem IZ.rho {ro : Nat → Nat} {μ : Mem} {ρ ρ' : RS} {s a : Nat} (h : IZ ro μ ρ s a) (e6 : ra ρ' 6 s = ra ρ 6 s) (e : ∀ k, k < 8 → ra ρ' 7 (8 * s + k) = ra ρ 7 (8 * s + k) ∧ ra ρ' 8 (8 * s + k) = ra ρ 8 (8 * s + k)) (hs : ∀ n, n ≤ 8 → surf n (fun k => ra ρ' 7 (8 * s + k)) (fun k => ra ρ' 8 (8 * s + k)) n 0 0 = surf n (fun k => ra ρ 7 (8 * s + k)) (fun k => ra ρ 8 (8 * s + k)) n 0 0) : IZ ro μ ρ' s a := by
  obtain ⟨n, h1, h2, h3, h4, h5, h6⟩ := h
  refine ⟨n, by rw [e6]; exact h1, h2, h3, h4.fn (fun k hk => ⟨(e k (by omega)).1.symm, (e k (by omega)).2.symm⟩), fun k hk => ?_, ?_⟩
  · rw [(e k (by omega)).1, (e k (by omega)).2]
    exact h5 k hk
  · rw [hs n h3]
    exact h6
theorem surf_fn {n : Nat} {X Y X' Y' : Nat → Int32} (e : ∀ k, k < n → X' k = X k ∧ Y' k = Y k) (m : Nat) : ∀ k s, k + m = n → surf n X' Y' m k s = surf n X Y m k s := by
  induction m with
  | zero => intro k s h; rfl
  | succ m ih =>
    intro k s h
    have hk : k < n := by omega
    have hn := nxt_lt hk
    show surf n X' Y' m (k + 1) _ = surf n X Y m (k + 1) _
    rw [(e k hk).1, (e k hk).2, (e _ hn).1, (e _ hn).2]
    exact ih (k + 1) _ (by omega)
theorem IZ.rho' {ro : Nat → Nat} {μ : Mem} {ρ ρ' : RS} {s a : Nat} (h : IZ ro μ ρ s a) (e6 : ra ρ' 6 s = ra ρ 6 s) (e : ∀ k, k < 8 → ra ρ' 7 (8 * s + k) = ra ρ 7 (8 * s + k) ∧ ra ρ' 8 (8 * s + k) = ra ρ 8 (8 * s + k)) : IZ ro μ ρ' s a :=
  h.rho e6 e (fun n hn => surf_fn (fun k hk => ⟨(e k (by omega)).1, (e k (by omega)).2⟩) n 0 0 (by omega))
theorem ISh.rho {ro : Nat → Nat} {μ : Mem} {ρ ρ' : RS} {i sh sd : Nat} (h : ISh ro μ ρ i sh sd) (e4 : ra ρ' 4 i = ra ρ 4 i) (e : ∀ k, k < 3 → ra ρ' 5 (3 * i + k) = ra ρ 5 (3 * i + k) ∧ ra ρ' 6 (3 * i + k) = ra ρ 6 (3 * i + k) ∧ ∀ j, j < 8 → ra ρ' 7 (8 * (3 * i + k) + j) = ra ρ 7 (8 * (3 * i + k) + j) ∧ ra ρ' 8 (8 * (3 * i + k) + j) = ra ρ 8 (8 * (3 * i + k) + j)) : ISh ro μ ρ' i sh sd := by
  obtain ⟨n, co, D, h1, h2, h3, h4, h5, h6⟩ := h
  refine ⟨n, co, D, by rw [e4]; exact h1, h2, h3, h4, fun k hk => ?_, fun k hk => (h6 k hk).rho' (e k (by omega)).2.1 (e k (by omega)).2.2⟩
  rw [(e k (by omega)).1]
  exact h5 k hk
theorem INm.rho {ro : Nat → Nat} {μ : Mem} {ρ ρ' : RS} {i nm : Nat} (h : INm ro μ ρ i nm) (e9 : ra ρ' 9 i = ra ρ 9 i) (e : ∀ k, k < 2 → ra ρ' 10 (2 * i + k) = ra ρ 10 (2 * i + k) ∧ ra ρ' 11 (2 * i + k) = ra ρ 11 (2 * i + k) ∧ ra ρ' 12 (2 * i + k) = ra ρ 12 (2 * i + k) ∧ ∀ j, j < 10 → ra ρ' 13 (10 * (2 * i + k) + j) = ra ρ 13 (10 * (2 * i + k) + j)) : INm ro μ ρ' i nm := by
  obtain ⟨n, na, h1, h2, h3, h4⟩ := h
  refine ⟨n, na, by rw [e9]; exact h1, h2, h3, fun k hk => ?_⟩
  obtain ⟨g1, g2, g3, g4⟩ := e k (by omega)
  obtain ⟨len, p1, p2, p3, p4⟩ := h4 k hk
  have hl := p4.1
  refine ⟨len, ?_, by rw [g3]; exact p2, p3, p4.fn (fun k hk => g4 k (by omega))⟩
  rw [g1, g2]
  exact p1.fn (fun k hk => (g4 k (by omega)).symm)
theorem ILk.rho {ro : Nat → Nat} {μ : Mem} {ρ ρ' : RS} {pl pl' : Nat → Nat} {N N' i lk : Nat} (h : ILk ro μ ρ pl N i lk) (hN : N ≤ N') (hp : ∀ j, j < N → pl' j = pl j) (e14 : ra ρ' 14 i = ra ρ 14 i) (e : ∀ k, k < 4 → ra ρ' 15 (4 * i + k) = ra ρ 15 (4 * i + k) ∧ ra ρ' 16 (4 * i + k) = ra ρ 16 (4 * i + k) ∧ ra ρ' 17 (4 * i + k) = ra ρ 17 (4 * i + k)) : ILk ro μ ρ' pl' N' i lk := by
  obtain ⟨n, li, h1, h2, h3, h4⟩ := h
  refine ⟨n, li, by rw [e14]; exact h1, h2, h3, fun k hk => ?_⟩
  obtain ⟨g1, g2, g3⟩ := e k (by omega)
  obtain ⟨j, p1, p2, p3⟩ := h4 k hk
  refine ⟨j, ?_, by rw [g1]; exact p2, by omega⟩
  rw [g2, g3, hp j p3]
  exact p1
