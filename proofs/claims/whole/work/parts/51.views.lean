/-! what the mirrors see of a cell -/
theorem oC_at {μ : Mem} {a ci : Nat} {fs : List Value} (h : mF μ a = some (.inr (ci, fs))) : oC μ (some a) ci = some (a, fs) := by
  unfold oC
  simp only [h]
  rfl
theorem rc_at {μ : Mem} {a ci : Nat} {fs : List Value} (h : mF μ a = some (.inr (ci, fs))) : rc μ (some a) ci = some () := by
  unfold rc
  rw [oC_at h]
theorem gI_at {μ : Mem} {a ci k : Nat} {fs : List Value} {x : Int32} (h : mF μ a = some (.inr (ci, fs))) (hk : fs[k]? = some (.int x)) : gI μ (some a) ci k = some x := by
  unfold gI
  rw [oC_at h]
  simp only [hk]
theorem gL_at {μ : Mem} {a ci k : Nat} {fs : List Value} {x : Int64} (h : mF μ a = some (.inr (ci, fs))) (hk : fs[k]? = some (.long x)) : gL μ (some a) ci k = some x := by
  unfold gL
  rw [oC_at h]
  simp only [hk]
theorem gR_at {μ : Mem} {a ci k : Nat} {fs : List Value} {x : Nat} (h : mF μ a = some (.inr (ci, fs))) (hk : fs[k]? = some (.ref x)) : gR μ (some a) ci k = some (some x) := by
  unfold gR
  rw [oC_at h]
  simp only [hk]
theorem gR_null {μ : Mem} {a ci k : Nat} {fs : List Value} (h : mF μ a = some (.inr (ci, fs))) (hk : fs[k]? = some .null) : gR μ (some a) ci k = some none := by
  unfold gR
  rw [oC_at h]
  simp only [hk]
theorem aC_at {μ : Mem} {a t : Nat} {x : vp_A} (h : mF μ a = some (.inl (t, x))) : aC μ (some a) t = some (a, x) := by
  unfold aC
  simp only [h]
  rfl
theorem not_oob {j n : Nat} (h : j < n) (hn : n < 2 ^ 31) : ¬ (i32 j < 0 ∨ n ≤ (i32 j).toNatClampNeg) := by
  rw [i32_nat (by omega)]
  intro q
  rcases q with q | q
  · exact i32_nn (by omega) q
  · omega
theorem aI_at {μ : Mem} {a t n j : Nat} {f : Nat → Int32} (h : mF μ a = some (.inl (t, n, .inl f))) (hj : j < n) (hn : n < 2 ^ 31) : aI μ (some a) t (i32 j) = some (f j) := by
  unfold aI
  rw [aC_at h]
  dsimp only
  rw [if_neg (not_oob hj hn), i32_nat (by omega)]
theorem aL_at {μ : Mem} {a t n j : Nat} {f : Nat → Int64} (h : mF μ a = some (.inl (t, n, .inr (.inl f)))) (hj : j < n) (hn : n < 2 ^ 31) : aL μ (some a) t (i32 j) = some (f j) := by
  unfold aL
  rw [aC_at h]
  dsimp only
  rw [if_neg (not_oob hj hn), i32_nat (by omega)]
theorem aR_at {μ : Mem} {a t n j : Nat} {f : Nat → Option Nat} (h : mF μ a = some (.inl (t, n, .inr (.inr (.inr (.inr f)))))) (hj : j < n) (hn : n < 2 ^ 31) : aR μ (some a) t (i32 j) = some (f j) := by
  unfold aR
  rw [aC_at h]
  dsimp only
  rw [if_neg (not_oob hj hn), i32_nat (by omega)]
theorem aLen_at {μ : Mem} {a t n : Nat} {x : _} (h : mF μ a = some (.inl (t, n, x))) (hD : a ≠ mD μ) (ht : t < 7) : aLen μ (some a) = some (i32 n) := by
  unfold aLen
  simp only [hD, if_false, h]
  exact if_pos ht
theorem pV_at {μ : Mem} {a ci k : Nat} {fs : List Value} (v : TV) (h : mF μ a = some (.inr (ci, fs))) (hW : mW μ ≤ a) (hk : k < fs.length) : pV μ (some a) ci k v = some (m_set μ a (.inr (ci, fs.set k (tv v)))) := by
  unfold pV
  rw [oC_at h]
  exact if_pos ⟨hW, hk⟩
theorem sI_at {μ : Mem} {a t n j : Nat} {f : Nat → Int32} (x : Int32) (h : mF μ a = some (.inl (t, n, .inl f))) (hW : mW μ ≤ a) (hj : j < n) (hn : n < 2 ^ 31) : sI μ (some a) t (i32 j) x = some (m_set μ a (.inl (t, n, .inl (upd f j x)))) := by
  unfold sI
  rw [aC_at h]
  dsimp only
  rw [if_neg (not_oob hj hn), if_pos hW, i32_nat (by omega)]
theorem set_at (μ : Mem) (a : Nat) (e : ME) : mF (m_set μ a e) a = some e := va_up_self _ _ _
theorem set_ne (μ : Mem) {a b : Nat} (e : ME) (h : b ≠ a) : mF (m_set μ a e) b = mF μ b := va_up_ne _ _ h
theorem push_at (μ : Mem) (e : ME) : mF (m_push μ e) (mN μ) = some e := va_up_self _ _ _
theorem push_ne (μ : Mem) {b : Nat} (e : ME) (h : b ≠ mN μ) : mF (m_push μ e) b = mF μ b := va_up_ne _ _ h
/-! the small questions -/
theorem P_isKind_eq (x : Int32) (μ : Mem) : S_P_isKind x μ = R_M_in x 0 7 := by
  unfold S_P_isKind R_M_in
  rfl
