/-! the start: the ties hold -/
def rolesL : List Nat := [2, 6, 3, 4, 0, 0, 0, 0, 0, 5, 8, 10, 11, 12, 13, 0, 0, 20, 21, 22, 23, 24, 25, 26, 27, 28, 29, 30, 15, 0, 0, 0, 0] ++ List.replicate 41 1 ++ [16]
def roS (N a : Nat) : Nat := rolesL.getD (a - N) 0
theorem roS_at (N i : Nat) : roS N (N + i) = rolesL.getD i 0 := by
  unfold roS
  rw [Nat.add_sub_cancel_left]
theorem ML_nil (hd : HD) (N : Nat) : ((hd, N, N, fun _ => none) : Mem) = ML hd N [] := by
  show (hd, N, N, fun _ => none) = (hd, N, N + 0, fun a => if a < N then none else ([] : List ME)[a - N]?)
  congr 3
  funext a
  simp
theorem LP_len (hd : HD) (N : Nat) : (LPq hd N).length = 33 := rfl
theorem LP_row (hd : HD) (N : Nat) : ∀ i, i < 11 → (LPq hd N)[17 + i]? = some (.inl (0, 11, .inl (fun _ => 0)))
  | 0, _ => rfl
  | 1, _ => rfl
  | 2, _ => rfl
  | 3, _ => rfl
  | 4, _ => rfl
  | 5, _ => rfl
  | 6, _ => rfl
  | 7, _ => rfl
  | 8, _ => rfl
  | 9, _ => rfl
  | 10, _ => rfl
  | n + 11, h => by omega
theorem ML_wf {hd : HD} {N : Nat} {L : List ME} (hD : hd.1 < N) : WF (ML hd N L) := by
  refine ⟨⟨hD, Nat.le_add_right _ _⟩, fun a ha => ?_⟩
  have ha : N + L.length ≤ a := ha
  show (if a < N then none else L[a - N]?) = none
  rw [if_neg (by omega), List.getElem?_eq_none (by omega)]
theorem MS_wf {μ : Mem} {j : Nat} {fs : List Value} (w : WF μ) : WF (MS μ j fs) := by
  refine ⟨⟨w.1.1, Nat.le_trans w.1.2 (Nat.le_add_right _ _)⟩, fun a ha => ?_⟩
  have ha : mN μ + (j + 1) ≤ a := ha
  show (if a = mN μ then _ else if mN μ < a ∧ a ≤ mN μ + j then _ else mF μ a) = none
  rw [if_neg (by omega), if_neg (by omega)]
  exact w.2 a (by omega)
set_option maxHeartbeats 8000000 in
set_option maxRecDepth 100000 in
theorem law_begin (hd : HD) (N : Nat) (hD : hd.1 < N) : ∃ (b c v : Nat) (ρ : RS) (μ1 : Mem), S_law (hd, N, N, fun _ => none) = some ((some c, some b, some v), μ1) ∧ ov b ρ μ1 = μ1 ∧ Invt b c v ρ μ1 := by
  have wP : WF (ML hd N (LPq hd N)) := ML_wf hD
  have nP : mN (ML hd N (LPq hd N)) = N + 33 := rfl
  have wM : WF (MS (ML hd N (LPq hd N)) 40 (flds (N + 33) ρz)) := MS_wf wP
  have nM : mN (MS (ML hd N (LPq hd N)) 40 (flds (N + 33) ρz)) = N + 74 := rfl
  have hS : S_law (hd, N, N, fun _ => none) = some ((some (N + 0), some (N + 33), some (N + 74)), m_push (MS (ML hd N (LPq hd N)) 40 (flds (N + 33) ρz)) (.inl (1, 1, .inr (.inl (fun _ => 0))))) := by
    unfold S_law
    rw [ML_nil, ML_nO (j := 0) (L' := [.inr (11, [.null, .null, .null, .int 0, .null, .null, .int 0, .null, .null, .null, .null, .null, .null])]) rfl rfl, b2_some, ML_rc (i := 0) rfl, b1_some, P_init_eq hD, b2_some, nO_eq, b2_some, rc_at (push_at _ _), b1_some]
    have hM : S_M_init (some (mN (ML hd N (LPq hd N)))) (m_push (ML hd N (LPq hd N)) (.inr (12, fs0))) = some ((), MS (ML hd N (LPq hd N)) 40 (flds (N + 33) ρz)) := M_init_eq wP
    show b2 (S_M_init (some (mN (ML hd N (LPq hd N)))) (m_push (ML hd N (LPq hd N)) (.inr (12, fs0)))) _ = _
    rw [hM, b2_some, show ∀ m : Mem, nL_ m 1 1 1 = some (some (mN m), m_push m (.inl (1, 1, .inr (.inl (fun _ => 0))))) from fun m => nL_at (n := 1) (by decide) (by decide), b2_some]
    rfl
  have hcell : ∀ i, i < 33 → mF (m_push (MS (ML hd N (LPq hd N)) 40 (flds (N + 33) ρz)) (.inl (1, 1, .inr (.inl (fun _ => 0))))) (N + i) = (LPq hd N)[i]? := by
    intro i hi
    rw [push_ne _ _ (show N + i ≠ N + 74 by omega)]
    show (if N + i = N + 33 then _ else if N + 33 < N + i ∧ N + i ≤ N + 33 + 40 then _ else mF (ML hd N (LPq hd N)) (N + i)) = _
    rw [if_neg (by omega), if_neg (by omega), ML_at]
  have hblk : ∀ i, i < 41 → ∃ e, mF (m_push (MS (ML hd N (LPq hd N)) 40 (flds (N + 33) ρz)) (.inl (1, 1, .inr (.inl (fun _ => 0))))) (N + (33 + i)) = some e := by
    intro i hi
    rw [push_ne _ _ (show N + (33 + i) ≠ N + 74 by omega)]
    show ∃ e, (if N + (33 + i) = N + 33 then _ else if N + 33 < N + (33 + i) ∧ N + (33 + i) ≤ N + 33 + 40 then _ else mF (ML hd N (LPq hd N)) (N + (33 + i))) = some e
    by_cases h0 : i = 0
    · rw [if_pos (by omega)]; exact ⟨_, rfl⟩
    · rw [if_neg (by omega), if_pos (by omega)]; exact ⟨_, rfl⟩
  have hv : mF (m_push (MS (ML hd N (LPq hd N)) 40 (flds (N + 33) ρz)) (.inl (1, 1, .inr (.inl (fun _ => 0))))) (N + 74) = some (.inl (1, 1, .inr (.inl (fun _ => 0)))) := push_at (MS (ML hd N (LPq hd N)) 40 (flds (N + 33) ρz)) _
  have w1 : WF (m_push (MS (ML hd N (LPq hd N)) 40 (flds (N + 33) ρz)) (.inl (1, 1, .inr (.inl (fun _ => 0))))) := (Ext.push (W := fun _ => True) (ro := fun _ => 0) wM 0 _).wf
  have hlow : LO (m_push (MS (ML hd N (LPq hd N)) 40 (flds (N + 33) ρz)) (.inl (1, 1, .inr (.inl (fun _ => 0))))) := by
    intro a e ha
    show N ≤ a
    rcases Nat.lt_or_ge a N with q | q
    · exfalso
      rw [push_ne _ _ (show a ≠ N + 74 by omega)] at ha
      have ha : (if a = N + 33 then _ else if N + 33 < a ∧ a ≤ N + 33 + 40 then _ else (if a < N then none else (LPq hd N)[a - N]?)) = some e := ha
      rw [if_neg (by omega), if_neg (by omega), if_pos q] at ha
      cases ha
    · exact q
  have hov : ov (N + 33) ρz (m_push (MS (ML hd N (LPq hd N)) 40 (flds (N + 33) ρz)) (.inl (1, 1, .inr (.inl (fun _ => 0))))) = m_push (MS (ML hd N (LPq hd N)) 40 (flds (N + 33) ρz)) (.inl (1, 1, .inr (.inl (fun _ => 0)))) := by
    have hc : ∀ a, mF (ov (N + 33) ρz (m_push (MS (ML hd N (LPq hd N)) 40 (flds (N + 33) ρz)) (.inl (1, 1, .inr (.inl (fun _ => 0)))))) a = mF (m_push (MS (ML hd N (LPq hd N)) 40 (flds (N + 33) ρz)) (.inl (1, 1, .inr (.inl (fun _ => 0))))) a := by
      intro a
      by_cases hb : N + 33 ≤ a ∧ a ≤ N + 33 + 40
      · rw [push_ne _ _ (show a ≠ N + 74 by omega)]
        show (if a = N + 33 then _ else _) = (if a = N + 33 then _ else if N + 33 < a ∧ a ≤ N + 33 + 40 then _ else _)
        by_cases h0 : a = N + 33
        · rw [if_pos h0, if_pos h0]
        · rw [if_neg h0, if_neg h0, if_pos (by omega), if_pos (by omega)]
          rfl
      · exact ov_out (by omega)
    exact m_ext rfl rfl rfl hc
  refine ⟨N + 33, N + 0, N + 74, ρz, _, hS, hov, ?_⟩
  clear hS hov
  have hmD : mD (m_push (MS (ML hd N (LPq hd N)) 40 (flds (N + 33) ρz)) (.inl (1, 1, .inr (.inl (fun _ => 0))))) = hd.1 := rfl
  have hmW : mW (m_push (MS (ML hd N (LPq hd N)) 40 (flds (N + 33) ρz)) (.inl (1, 1, .inr (.inl (fun _ => 0))))) = N := rfl
  generalize m_push (MS (ML hd N (LPq hd N)) 40 (flds (N + 33) ρz)) (.inl (1, 1, .inr (.inl (fun _ => 0)))) = μ1 at *
  have I : ∀ (i : Nat) (r : Nat) (e : ME), i < 33 → rolesL.getD i 0 = r → (LPq hd N)[i]? = some e → Is (roS N) μ1 (N + i) r e := fun i r e hi hr he => ⟨(hcell i hi).trans he, (roS_at N i).trans hr⟩
  have z0 : ∀ k, ¬ k < 0 := fun k => Nat.not_lt_zero k
  refine ⟨roS N, 0, id, N + 1, N + 2, N + 3, 0, N + 4, N + 9, 0, N + 10, N + 11, N + 12, N + 15, N + 28, N + 29, I 0 2 _ (by decide) (by decide) rfl, ⟨rfl, by decide, ⟨hd.1, 0, I 1 6 _ (by decide) (by decide) rfl, .inl ⟨hmD.symm, rfl⟩⟩, fun i hi => absurd hi (z0 i)⟩, ⟨fun _ _ _ => ⟨rfl, rfl, rfl⟩, fun i hi => absurd hi (z0 i), fun i hi => absurd hi (z0 i), fun _ i _ hi => absurd hi (z0 i)⟩, ⟨rfl, by decide, _, _, I 2 3 _ (by decide) (by decide) rfl, I 3 4 _ (by decide) (by decide) rfl, fun k hk => absurd hk (z0 k)⟩, ⟨0, rfl, by decide, ⟨N + 7, N + 8, _, _, I 4 0 _ (by decide) (by decide) rfl, I 7 0 _ (by decide) (by decide) rfl, I 8 0 _ (by decide) (by decide) rfl, fun k hk => absurd hk (z0 k), by decide⟩, fun k hk => absurd hk (z0 k)⟩, ⟨rfl, by decide, _, I 9 5 _ (by decide) (by decide) rfl, fun k hk => absurd hk (z0 k), by decide, fun k hk => absurd hk (z0 k)⟩, ⟨0, id, rfl, by decide, ⟨hd.1, 0, I 10 8 _ (by decide) (by decide) rfl, .inl ⟨hmD.symm, rfl⟩⟩, fun k hk => absurd hk (z0 k)⟩, ⟨_, I 11 10 _ (by decide) (by decide) rfl, fun w hw => .inl ⟨rfl, rfl⟩⟩, ⟨N + 13, N + 14, 0, _, _, I 12 11 _ (by decide) (by decide) rfl, rfl, by decide, I 13 12 _ (by decide) (by decide) rfl, I 14 13 _ (by decide) (by decide) rfl, fun k hk => absurd hk (z0 k)⟩, ⟨N + 16, _, fun i => N + (17 + i), I 15 0 _ (by decide) (by decide) rfl, I 16 0 _ (by decide) (by decide) rfl, fun i hi => ⟨?_, _, I (17 + i) (20 + i) _ (by omega) ?_ (LP_row hd N i hi)⟩⟩, ⟨_, _, _, _, _, _, I 28 15 _ (by decide) (by decide) rfl⟩, ⟨N + 30, I 29 0 _ (by decide) (by decide) rfl, N + 32, 0, _, I 30 0 _ (by decide) (by decide) rfl, I 32 0 _ (by decide) (by decide) rfl, Nat.le_refl _, by decide, fun k hk => absurd hk (z0 k)⟩, ⟨_, hv, ?_⟩, ⟨by rw [hmW]; omega, fun a h1 h2 => ?_⟩, w1, hlow⟩
  · show (if i < 11 then some (N + 16 + 1 + i) else none) = _
    rw [if_pos hi]
    show some (N + 16 + 1 + i) = some (N + (17 + i))
    congr 1
    omega
  · have : ∀ i, i < 11 → rolesL.getD (17 + i) 0 = 20 + i := by decide
    exact this i hi
  · rw [roS_at]
    decide
  · obtain ⟨i, rfl⟩ : ∃ i, a = N + (33 + i) := ⟨a - (N + 33), by omega⟩
    refine ⟨?_, hblk i (by omega)⟩
    rw [roS_at]
    have : ∀ i, i < 41 → rolesL.getD (33 + i) 0 = 1 := by decide
    exact this i (by omega)
