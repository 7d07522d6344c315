/-! words -/
def WO (μ : Mem) (a n : Nat) (w : Nat → Int32) : Prop := ∃ al cap f, mF μ a = some (.inr (10, [.ref al, .int (i32 n)])) ∧ mF μ al = some (.inl (2, cap, .inl f)) ∧ n ≤ cap ∧ cap ≤ 10 ∧ ∀ k, k < n → f k = w k
theorem WO.v {μ : Mem} {a n : Nat} {w : Nat → Int32} (h : WO μ a n w) : ∃ al, gI μ (some a) 10 1 = some (i32 n) ∧ gR μ (some a) 10 0 = some (some al) ∧ rc μ (some a) 10 = some () ∧ (∀ k, k < n → aI μ (some al) 2 (i32 k) = some (w k)) ∧ n ≤ 10 := by
  obtain ⟨al, cap, f, h1, h2, h3, h4, h5⟩ := h
  exact ⟨al, gI_at h1 rfl, gR_at h1 rfl, rc_at h1, fun k hk => by rw [aI_at h2 (show k < cap by omega) (by omega), h5 k hk], by omega⟩
/-- the class of a letter, by its place in the alphabet -/
def clsN (d : Nat) : Int32 := scb.getD d 0 - 48
theorem R_classOf_eq : ∀ d, d < 26 → R_M_classOf (i32 (97 + d)) = some (clsN d) := by decide
theorem sc_fin : ∀ d, d < 26 → gd (¬ okC (((scb.getD d 0 &&& 255 : Int32).toUInt32 % 65536).toInt32) = true) (some (((scb.getD d 0 &&& 255 : Int32).toUInt32 % 65536).toInt32)) = some (scb.getD d 0) := by decide
theorem sc_ok : ∀ d, d < 26 → gd (¬ okC (scb.getD d 0) = true) (some (scb.getD d 0)) = some (scb.getD d 0) := by decide
theorem Sl_charAt_eq (μ : Mem) {d : Nat} (hd : d < 26) : S_Sl_charAt (some (mV μ)) (i32 d) μ = some (scb.getD d 0) := by
  unfold S_Sl_charAt S_St_checkIndex S_Pr_checkIndex aLb aB
  rw [if_pos rfl, b1_some, if_neg (i32_nn (by omega)), if_pos (show i32 d < 26 from (i32_lt (a := d) (b := 26) (by omega) (by omega)).mpr hd), b1_some, b1_some, if_pos rfl, if_neg (not_oob hd (by omega)), i32_nat (by omega), b1_some]
  exact sc_fin d hd
theorem St_charAt_eq (μ : Mem) {d : Nat} (hd : d < 26) : S_St_charAt (some (mS μ)) (i32 d) μ = some (scb.getD d 0) := by
  unfold S_St_charAt S_St_isLatin1 B_St_isLatin1_18 rS gSc gSv
  rw [if_pos rfl, b1_some, b0_eq, if_neg (by decide), if_pos rfl, b1_some, if_pos rfl, gd1, b1_some, if_neg (by decide), if_pos rfl, b1_some, Sl_charAt_eq μ hd, b1_some]
  exact sc_ok d hd
theorem Wo_soundClass_eq {μ : Mem} {a n : Nat} {w : Nat → Int32} (h : WO μ a n w) {k d : Nat} (hk : k < n) (hd : d < 26) (hw : w k = i32 (97 + d)) : S_Wo_soundClass (some a) (i32 k) μ = some (clsN d) := by
  obtain ⟨al, g1, g0, g3, g4, h10⟩ := h.v
  unfold S_Wo_soundClass
  rw [g0, b1_some, g4 k hk, b1_some, hw]
  have e : i32 (97 + d) - 97 = i32 d := by
    rw [show (97 : Int32) = i32 97 from rfl, i32_sub (by omega)]
    congr 1
    omega
  rw [e, show rS μ (some (mS μ)) = some () from if_pos rfl, b1_some, St_charAt_eq μ hd, b1_some]
  rfl
