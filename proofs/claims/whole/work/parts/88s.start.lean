/-! the start: the reference's block -/
def ρz : RS := (fun _ => 0, fun _ => 0, fun _ _ => 0, fun _ _ => 0)
def MS (μ : Mem) (j : Nat) (fs : List Value) : Mem := (mE μ, mW μ, mN μ + (j + 1), fun a => if a = mN μ then some (.inr (12, fs)) else if mN μ < a ∧ a ≤ mN μ + j then some (rcell ρz (a - mN μ)) else mF μ a)
theorem MS_cell (μ : Mem) (j : Nat) (fs : List Value) : mF (MS μ j fs) (mN μ) = some (.inr (12, fs)) := if_pos rfl
theorem MS_0 (μ : Mem) (fs : List Value) : m_push μ (.inr (12, fs)) = MS μ 0 fs := by
  show (mE μ, mW μ, mN μ + 1, va_up (mF μ) (mN μ) (some (.inr (12, fs)))) = (mE μ, mW μ, mN μ + (0 + 1), _)
  congr 3
  funext a
  unfold va_up
  by_cases h : a = mN μ
  · rw [if_pos h, if_pos h]
  · rw [if_neg h, if_neg h, if_neg (by omega)]
theorem MS_put {μ : Mem} {j k : Nat} {fs : List Value} {e : ME} (w : WF μ) (hk : k < fs.length) (he : rcell ρz (j + 1) = e) : pV (m_push (MS μ j fs) e) (some (mN μ)) 12 k (vR (some (mN μ + (j + 1)))) = some (MS μ (j + 1) (fs.set k (.ref (mN μ + (j + 1))))) := by
  have hc : mF (m_push (MS μ j fs) e) (mN μ) = some (.inr (12, fs)) := (push_ne _ _ (show mN μ ≠ mN μ + (j + 1) by omega)).trans (MS_cell μ j fs)
  rw [pV_at _ hc (show mW μ ≤ mN μ from w.1.2) hk]
  congr 1
  show (mE μ, mW μ, mN μ + (j + 1) + 1, va_up (va_up (mF (MS μ j fs)) (mN μ + (j + 1)) (some e)) (mN μ) (some (.inr (12, fs.set k (.ref (mN μ + (j + 1))))))) = (mE μ, mW μ, mN μ + (j + 1 + 1), _)
  congr 3
  funext a
  unfold va_up
  by_cases h : a = mN μ
  · rw [if_pos h, if_pos h]
  · rw [if_neg h, if_neg h]
    by_cases h2 : a = mN μ + (j + 1)
    · rw [if_pos h2, if_pos (by omega), ← he, show a - mN μ = j + 1 by omega]
    · rw [if_neg h2]
      show (if a = mN μ then _ else if mN μ < a ∧ a ≤ mN μ + j then _ else _) = _
      rw [if_neg h]
      by_cases h3 : mN μ < a ∧ a ≤ mN μ + j
      · rw [if_pos h3, if_pos (by omega)]
      · rw [if_neg h3, if_neg (by omega)]
theorem MS_step {μ : Mem} {j k n t B : Nat} {n' : Int32} {fs : List Value} (w : WF μ) (hn' : n' = i32 n) (hk : k < fs.length) (hB : n ≤ B) (hn : n < 2 ^ 31) (hr : rcell ρz (j + 1) = .inl (t, n, .inl (fun _ => 0))) {α : Type} (K : Mem → Option α) : b2 (nI_ (MS μ j fs) t n' B) (fun x m => b1 (pV m (some (mN μ)) 12 k (vR x)) K) = K (MS μ (j + 1) (fs.set k (.ref (mN μ + (j + 1))))) := by
  rw [hn', nI_at hB hn, b2_some]
  show b1 (pV (m_push (MS μ j fs) _) (some (mN μ)) 12 k (vR (some (mN μ + (j + 1))))) K = _
  rw [MS_put w hk hr, b1_some]
theorem nL_at {μ : Mem} {t n B : Nat} (h : n ≤ B) (hB : n < 2 ^ 31) : nL_ μ t (i32 n) B = some (some (mN μ), m_push μ (.inl (t, n, .inr (.inl (fun _ => 0))))) := by
  unfold nL_
  rw [i32_nat hB, if_neg]
  intro q
  rcases q with q | q
  · exact i32_nn hB q
  · omega
theorem MS_stepL {μ : Mem} {j k n t B : Nat} {n' : Int32} {fs : List Value} (w : WF μ) (hn' : n' = i32 n) (hk : k < fs.length) (hB : n ≤ B) (hn : n < 2 ^ 31) (hr : rcell ρz (j + 1) = .inl (t, n, .inr (.inl (fun _ => 0)))) {α : Type} (K : Mem → Option α) : b2 (nL_ (MS μ j fs) t n' B) (fun x m => b1 (pV m (some (mN μ)) 12 k (vR x)) K) = K (MS μ (j + 1) (fs.set k (.ref (mN μ + (j + 1))))) := by
  rw [hn', nL_at hB hn, b2_some]
  show b1 (pV (m_push (MS μ j fs) _) (some (mN μ)) 12 k (vR (some (mN μ + (j + 1))))) K = _
  rw [MS_put w hk hr, b1_some]
def fs0 : List Value := [.int 0, .int 0, .null, .null, .null, .null, .null, .null, .null, .null, .null, .null, .null, .null, .null, .null, .null, .null, .int 0, .null, .null, .int 0, .null, .null, .null, .null, .null, .null, .null, .null, .null, .null, .null, .null, .null, .null, .int 0, .null, .int 0, .null, .null, .long 0, .long 0, .long 0, .long 0, .long 0, .long 0, .long 0, .long 0, .int 0, .null, .null, .null, .null, .null]
theorem fs0_len : fs0.length = 55 := rfl
set_option maxHeartbeats 4000000 in
set_option maxRecDepth 100000 in
theorem M_init_eq {μ : Mem} (w : WF μ) : S_M_init (some (mN μ)) (m_push μ (.inr (12, fs0))) = some ((), MS μ 40 (flds (mN μ) ρz)) := by
  rw [MS_0]
  unfold S_M_init
  rw [rc_at (MS_cell _ _ _), b1_some]
  rw [MS_step (n := 30) (n' := 30) w rfl (by simp only [List.length_set, fs0_len]; decide) (by decide) (by decide) rfl]
  rw [MS_step (n := 30) (n' := 30) w rfl (by simp only [List.length_set, fs0_len]; decide) (by decide) (by decide) rfl]
  rw [MS_step (n := 30) (n' := 30) w rfl (by simp only [List.length_set, fs0_len]; decide) (by decide) (by decide) rfl]
  rw [MS_step (n := 90) (n' := 90) w rfl (by simp only [List.length_set, fs0_len]; decide) (by decide) (by decide) rfl]
  rw [MS_step (n := 90) (n' := 90) w rfl (by simp only [List.length_set, fs0_len]; decide) (by decide) (by decide) rfl]
  rw [MS_step (n := 720) (n' := 720) w rfl (by simp only [List.length_set, fs0_len]; decide) (by decide) (by decide) rfl]
  rw [MS_step (n := 720) (n' := 720) w rfl (by simp only [List.length_set, fs0_len]; decide) (by decide) (by decide) rfl]
  rw [MS_step (n := 30) (n' := 30) w rfl (by simp only [List.length_set, fs0_len]; decide) (by decide) (by decide) rfl]
  rw [MS_step (n := 60) (n' := 60) w rfl (by simp only [List.length_set, fs0_len]; decide) (by decide) (by decide) rfl]
  rw [MS_step (n := 60) (n' := 60) w rfl (by simp only [List.length_set, fs0_len]; decide) (by decide) (by decide) rfl]
  rw [MS_step (n := 60) (n' := 60) w rfl (by simp only [List.length_set, fs0_len]; decide) (by decide) (by decide) rfl]
  rw [MS_step (n := 600) (n' := 600) w rfl (by simp only [List.length_set, fs0_len]; decide) (by decide) (by decide) rfl]
  rw [MS_step (n := 30) (n' := 30) w rfl (by simp only [List.length_set, fs0_len]; decide) (by decide) (by decide) rfl]
  rw [MS_step (n := 120) (n' := 120) w rfl (by simp only [List.length_set, fs0_len]; decide) (by decide) (by decide) rfl]
  rw [MS_step (n := 120) (n' := 120) w rfl (by simp only [List.length_set, fs0_len]; decide) (by decide) (by decide) rfl]
  rw [MS_step (n := 120) (n' := 120) w rfl (by simp only [List.length_set, fs0_len]; decide) (by decide) (by decide) rfl]
  rw [MS_step (n := 8) (n' := 8) w rfl (by simp only [List.length_set, fs0_len]; decide) (by decide) (by decide) rfl]
  rw [MS_step (n := 8) (n' := 8) w rfl (by simp only [List.length_set, fs0_len]; decide) (by decide) (by decide) rfl]
  rw [MS_step (n := 10) (n' := 10) w rfl (by simp only [List.length_set, fs0_len]; decide) (by decide) (by decide) rfl]
  rw [MS_step (n := 5) (n' := 5) w rfl (by simp only [List.length_set, fs0_len]; decide) (by decide) (by decide) rfl]
  rw [MS_step (n := 25) (n' := 25) w rfl (by simp only [List.length_set, fs0_len]; decide) (by decide) (by decide) rfl]
  rw [MS_step (n := 25) (n' := 25) w rfl (by simp only [List.length_set, fs0_len]; decide) (by decide) (by decide) rfl]
  rw [MS_step (n := 25) (n' := 25) w rfl (by simp only [List.length_set, fs0_len]; decide) (by decide) (by decide) rfl]
  rw [MS_step (n := 25) (n' := 25) w rfl (by simp only [List.length_set, fs0_len]; decide) (by decide) (by decide) rfl]
  rw [MS_step (n := 25) (n' := 25) w rfl (by simp only [List.length_set, fs0_len]; decide) (by decide) (by decide) rfl]
  rw [MS_step (n := 250) (n' := 250) w rfl (by simp only [List.length_set, fs0_len]; decide) (by decide) (by decide) rfl]
  rw [MS_step (n := 5) (n' := 5) w rfl (by simp only [List.length_set, fs0_len]; decide) (by decide) (by decide) rfl]
  rw [MS_step (n := 40) (n' := 40) w rfl (by simp only [List.length_set, fs0_len]; decide) (by decide) (by decide) rfl]
  rw [MS_step (n := 40) (n' := 40) w rfl (by simp only [List.length_set, fs0_len]; decide) (by decide) (by decide) rfl]
  rw [MS_step (n := 5) (n' := 5) w rfl (by simp only [List.length_set, fs0_len]; decide) (by decide) (by decide) rfl]
  rw [MS_step (n := 5) (n' := 5) w rfl (by simp only [List.length_set, fs0_len]; decide) (by decide) (by decide) rfl]
  rw [MS_step (n := 5) (n' := 5) w rfl (by simp only [List.length_set, fs0_len]; decide) (by decide) (by decide) rfl]
  rw [MS_step (n := 30) (n' := 30) w rfl (by simp only [List.length_set, fs0_len]; decide) (by decide) (by decide) rfl]
  rw [MS_step (n := 10) (n' := 10) w rfl (by simp only [List.length_set, fs0_len]; decide) (by decide) (by decide) rfl]
  rw [MS_step (n := 121) (n' := 121) w rfl (by simp only [List.length_set, fs0_len]; decide) (by decide) (by decide) rfl]
  rw [MS_step (n := 30) (n' := 30) w rfl (by simp only [List.length_set, fs0_len]; decide) (by decide) (by decide) rfl]
  rw [MS_step (n := 30) (n' := 30) w rfl (by simp only [List.length_set, fs0_len]; decide) (by decide) (by decide) rfl]
  rw [MS_step (n := 30) (n' := 30) w rfl (by simp only [List.length_set, fs0_len]; decide) (by decide) (by decide) rfl]
  rw [MS_stepL (n := 30) (n' := 30) w rfl (by simp only [List.length_set, fs0_len]; decide) (by decide) (by decide) rfl]
  rw [MS_stepL (n := 30) (n' := 30) w rfl (by simp only [List.length_set, fs0_len]; decide) (by decide) (by decide) rfl]
  simp only [fs0, List.set]
  rfl
