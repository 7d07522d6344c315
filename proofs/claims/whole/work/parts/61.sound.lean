/-! the sound of a word -/
theorem shl5 (x : Int32) : x <<< ((5 : Int32) &&& 31) = x * 32 := by
  apply Int32.toBitVec.inj
  show x.toBitVec <<< ((((5 : Int32) &&& 31).toBitVec).smod 32) = x.toBitVec * 32#32
  have e : ((((5 : Int32) &&& 31).toBitVec).smod 32) = 5#32 := by decide
  rw [e]
  show x.toBitVec <<< 5 = x.toBitVec * 32#32
  rw [BitVec.shiftLeft_eq_mul_twoPow]
  rfl
def sndF (cl : Nat → Int32) : Nat → Nat → Int32 → Nat → Int32
  | 0, _, code, _ => code
  | m + 1, k, code, sg => if 4 ≤ sg then code else if cl k = 0 then sndF cl m (k + 1) code sg else if cl k = cl (k - 1) then sndF cl m (k + 1) code sg else sndF cl m (k + 1) (code * 32 + cl k) (sg + 1)
theorem Wo_sound {μ : Mem} {a n : Nat} {w : Nat → Int32} {d : Nat → Nat} (h : WO μ a n w) (hd : ∀ k, k < n → d k < 26 ∧ w k = i32 (97 + d k)) (m : Nat) : ∀ (k : Nat) (code : Int32) (sg fuel : Nat), 1 ≤ k → sg ≤ 4 → k + m = n → m < fuel → B_Wo_soundCode_25 μ fuel (some a) code (i32 sg) (i32 k) = some (sndF (fun k => clsN (d k)) m k code sg) := by
  obtain ⟨al, g1, g0, g3, g4, h10⟩ := h.v
  induction m with
  | zero =>
    intro k code sg fuel h1 hs hk hf
    cases fuel with
    | zero => omega
    | succ fuel =>
      show b1 (gI μ (some a) 10 1) _ = _
      rw [g1, b1_some, if_pos ((i32_le (by omega) (by omega)).mpr (by omega))]
      rfl
  | succ m ih =>
    intro k code sg fuel h1 hs hk hf
    cases fuel with
    | zero => omega
    | succ fuel =>
      have c1 := Wo_soundClass_eq h (k := k) (by omega) (hd k (by omega)).1 (hd k (by omega)).2
      have c2 := Wo_soundClass_eq h (k := k - 1) (by omega) (hd (k - 1) (by omega)).1 (hd (k - 1) (by omega)).2
      have e : i32 k - 1 = i32 (k - 1) := by rw [show (1 : Int32) = i32 1 from rfl, i32_sub (by omega)]
      show b1 (gI μ (some a) 10 1) _ = _
      rw [g1, b1_some, if_neg (fun e => by have := (i32_le (by omega) (by omega)).mp e; omega)]
      show _ = some (if 4 ≤ sg then code else if clsN (d k) = 0 then sndF (fun k => clsN (d k)) m (k + 1) code sg else if clsN (d k) = clsN (d (k - 1)) then sndF (fun k => clsN (d k)) m (k + 1) code sg else sndF (fun k => clsN (d k)) m (k + 1) (code * 32 + clsN (d k)) (sg + 1))
      unfold B_Wo_soundCode_78 B_Wo_soundCode_72
      by_cases q4 : 4 ≤ sg
      · rw [if_pos (show (4 : Int32) ≤ i32 sg from (i32_le (a := 4) (b := sg) (by omega) (by omega)).mpr q4), if_pos q4]
      · rw [if_neg (show ¬ ((4 : Int32) ≤ i32 sg) from fun z => q4 ((i32_le (a := 4) (b := sg) (by omega) (by omega)).mp z)), if_neg q4, g3, b1_some, c1, b1_some, e, i32_succ]
        by_cases q0 : clsN (d k) = 0
        · rw [if_pos q0, if_pos q0]
          exact ih (k + 1) code sg fuel (by omega) hs (by omega) (by omega)
        · rw [if_neg q0, if_neg q0, b1_some, c2, b1_some]
          by_cases q1 : clsN (d k) = clsN (d (k - 1))
          · rw [if_pos q1, if_pos q1]
            exact ih (k + 1) code sg fuel (by omega) hs (by omega) (by omega)
          · rw [if_neg q1, if_neg q1, b0_eq, shl5, i32_succ]
            exact ih (k + 1) _ (sg + 1) fuel (by omega) (by omega) (by omega) (by omega)
theorem R_sound {ρ : RS} {n : Nat} {d : Nat → Nat} (hn : ri ρ 38 = i32 n) (h10 : n ≤ 10) (hd : ∀ k, k < n → d k < 26 ∧ ra ρ 39 k = i32 (97 + d k)) (m : Nat) : ∀ (k : Nat) (code : Int32) (sg fuel : Nat), 1 ≤ k → sg ≤ 4 → k + m = n → m < fuel → RB_M_soundOf_23 ρ fuel code (i32 sg) (i32 k) = some (sndF (fun k => clsN (d k)) m k code sg) := by
  induction m with
  | zero =>
    intro k code sg fuel h1 hs hk hf
    cases fuel with
    | zero => omega
    | succ fuel =>
      show (if ri ρ 38 ≤ i32 k then _ else _) = _
      rw [hn, if_pos ((i32_le (by omega) (by omega)).mpr (by omega))]
      rfl
  | succ m ih =>
    intro k code sg fuel h1 hs hk hf
    cases fuel with
    | zero => omega
    | succ fuel =>
      have r1 := rgI_at (ρ := ρ) (k := 39) (n := 10) (j := k) (by omega) (by omega)
      have r2 := rgI_at (ρ := ρ) (k := 39) (n := 10) (j := k - 1) (by omega) (by omega)
      rw [(hd k (by omega)).2] at r1
      rw [(hd (k - 1) (by omega)).2] at r2
      have e : i32 k - 1 = i32 (k - 1) := by rw [show (1 : Int32) = i32 1 from rfl, i32_sub (by omega)]
      show (if ri ρ 38 ≤ i32 k then _ else _) = _
      rw [hn, if_neg (fun e => by have := (i32_le (by omega) (by omega)).mp e; omega)]
      show _ = some (if 4 ≤ sg then code else if clsN (d k) = 0 then sndF (fun k => clsN (d k)) m (k + 1) code sg else if clsN (d k) = clsN (d (k - 1)) then sndF (fun k => clsN (d k)) m (k + 1) code sg else sndF (fun k => clsN (d k)) m (k + 1) (code * 32 + clsN (d k)) (sg + 1))
      unfold RB_M_soundOf_88 RB_M_soundOf_82
      by_cases q4 : 4 ≤ sg
      · rw [if_pos (show (4 : Int32) ≤ i32 sg from (i32_le (a := 4) (b := sg) (by omega) (by omega)).mpr q4), if_pos q4]
      · rw [if_neg (show ¬ ((4 : Int32) ≤ i32 sg) from fun z => q4 ((i32_le (a := 4) (b := sg) (by omega) (by omega)).mp z)), if_neg q4, r1, b1_some, R_classOf_eq _ (hd k (by omega)).1, b1_some, e, i32_succ]
        by_cases q0 : clsN (d k) = 0
        · rw [if_pos q0, if_pos q0]
          exact ih (k + 1) code sg fuel (by omega) hs (by omega) (by omega)
        · rw [if_neg q0, if_neg q0, r2, b1_some, R_classOf_eq _ (hd (k - 1) (by omega)).1, b1_some]
          by_cases q1 : clsN (d k) = clsN (d (k - 1))
          · rw [if_pos q1, if_pos q1]
            exact ih (k + 1) code sg fuel (by omega) hs (by omega) (by omega)
          · rw [if_neg q1, if_neg q1, b0_eq, i32_succ]
            exact ih (k + 1) _ (sg + 1) fuel (by omega) (by omega) (by omega) (by omega)
/-- the sound of n letters -/
def sndOf (n : Nat) (d : Nat → Nat) : Int32 := if n = 0 then 0 else sndF (fun k => clsN (d k)) (n - 1) 1 (i32 (1 + d 0)) 1
theorem Wo_soundCode_eq {μ : Mem} {a n : Nat} {w : Nat → Int32} {d : Nat → Nat} (h : WO μ a n w) (hd : ∀ k, k < n → d k < 26 ∧ w k = i32 (97 + d k)) : S_Wo_soundCode (some a) μ = some (sndOf n d) := by
  obtain ⟨al, g1, g0, g3, g4, h10⟩ := h.v
  unfold S_Wo_soundCode sndOf
  rw [g1, b1_some]
  by_cases hn : n = 0
  · rw [if_pos (by rw [hn]; rfl), if_pos hn]
  · rw [if_neg (show ¬ (i32 n = 0) from fun e => hn ((i32_inj (a := n) (b := 0) (by omega) (by omega)).mp e)), if_neg hn, g0, b1_some, show (0 : Int32) = i32 0 from rfl, g4 0 (by omega), b1_some, b0_eq, (hd 0 (by omega)).2]
    have e : i32 (97 + d 0) - 97 + 1 = i32 (1 + d 0) := by
      rw [show (97 : Int32) = i32 97 from rfl, i32_sub (by omega), i32_succ]
      congr 1
      omega
    rw [e]
    exact Wo_sound h hd (n - 1) 1 _ 1 fu (by omega) (by omega) (by omega) (by unfold fu; omega)
theorem R_soundOf_eq {ρ : RS} {n : Nat} {d : Nat → Nat} (hn : ri ρ 38 = i32 n) (h10 : n ≤ 10) (hd : ∀ k, k < n → d k < 26 ∧ ra ρ 39 k = i32 (97 + d k)) : R_M_soundOf ρ = some (sndOf n d) := by
  unfold R_M_soundOf sndOf
  rw [hn]
  by_cases h0 : n = 0
  · rw [if_pos (by rw [h0]; rfl), if_pos h0]
  · rw [if_neg (show ¬ (i32 n = 0) from fun e => h0 ((i32_inj (a := n) (b := 0) (by omega) (by omega)).mp e)), if_neg h0, show (0 : Int32) = i32 0 from rfl, rgI_at (ρ := ρ) (k := 39) (n := 10) (j := 0) (by omega) (by omega), b1_some, b0_eq, (hd 0 (by omega)).2]
    have e : i32 (97 + d 0) - 96 = i32 (1 + d 0) := by
      rw [show (96 : Int32) = i32 96 from rfl, i32_sub (by omega)]
      congr 1
      omega
    rw [e]
    exact R_sound hn h10 hd (n - 1) 1 _ 1 fu (by omega) (by omega) (by omega) (by unfold fu; omega)
