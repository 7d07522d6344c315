/-! folding, on both sides -/
theorem nar_ltr {c : Int32} (h : 97 ≤ c.toInt ∧ c.toInt ≤ 122) : vp_nar .char c = c := by
  have h0 : ∀ d, d < 26 → vp_nar .char (i32 (97 + d)) = i32 (97 + d) := by decide
  have hx : c = i32 (97 + (c.toInt.toNat - 97)) := by
    rw [← Int32.toInt_inj, i32_int (by omega)]
    omega
  rw [hx]
  exact h0 _ (by omega)
theorem ltr_ne0 {c : Int32} (h : 97 ≤ c.toInt ∧ c.toInt ≤ 122) : c ≠ 0 := by
  intro q
  rw [q] at h
  have : (0 : Int32).toInt = 0 := rfl
  omega
theorem Wo_tail {M : (Nat → Int32) → Mem} {A al aT n made : Nat} (hA : ∀ w, gR (M w) (some A) 10 0 = some (some al)) (hL : ∀ w k, k < n → aI (M w) (some al) 2 (i32 k) = some (w k)) (hS : ∀ w k c, k < n → sI (M w) (some al) 2 (i32 k) c = some (M (upd w k c))) (hn : n ≤ 10) (hm : made < n) {c v4 : Int32} (hc : 97 ≤ c.toInt ∧ c.toInt ≤ 122) (k16 : Option Nat → Option Nat → Int32 → Int32 → Int32 → Mem → Option (Unit × Mem)) (w : Nat → Int32) : B_Wo_init_101 k16 (some A) (some aT) (i32 n) (i32 made) v4 c (M w) = if made ≠ 0 ∧ w (made - 1) = c then k16 (some A) (some aT) (i32 n) (i32 made) (v4 + 1) (M w) else k16 (some A) (some aT) (i32 n) (i32 (made + 1)) (v4 + 1) (M (upd w made c)) := by
  have h118 : B_Wo_init_118 k16 (some A) (some aT) (i32 n) (i32 made) v4 c (M w) = k16 (some A) (some aT) (i32 n) (i32 (made + 1)) (v4 + 1) (M (upd w made c)) := by
    unfold B_Wo_init_118 B_Wo_init_129
    rw [hA, b1_some, nar_ltr hc, hS _ _ _ hm, b1_some, i32_succ]
  unfold B_Wo_init_101
  rw [h118]
  by_cases h0 : made = 0
  · subst h0
    rw [if_pos (show i32 0 = 0 from rfl), if_neg (fun q => q.1 rfl)]
  · rw [if_neg (show ¬ i32 made = 0 from fun q => h0 ((i32_inj (b := 0) (by omega) (by decide)).mp q)), hA, b1_some, show i32 made - 1 = i32 (made - 1) from i32_sub (b := 1) (by omega), hL _ _ (by omega), b1_some]
    by_cases h1 : w (made - 1) = c
    · rw [if_pos h1, if_pos ⟨h0, h1⟩]
      rfl
    · rw [if_neg h1, if_neg (fun q => h1 q.2)]
theorem Wo_skip {M : (Nat → Int32) → Mem} {A aT n : Nat} {t : Nat → Int32} (hT : ∀ w k, k < n → aI (M w) (some aT) 2 (i32 k) = some (t k)) (hn : n ≤ 10) {c v3 : Int32} (k16 : Option Nat → Option Nat → Int32 → Int32 → Int32 → Mem → Option (Unit × Mem)) (w : Nat → Int32) (m : Nat) : ∀ (k fuel : Nat), k + 1 + m = n → m < fuel → B_Wo_init_76 k16 fuel (some A) (some aT) (i32 n) v3 (i32 k) c (M w) = B_Wo_init_101 k16 (some A) (some aT) (i32 n) v3 (i32 (skF t c m (k + 1) - 1)) c (M w) := by
  induction m with
  | zero =>
    intro k fuel hk hf
    cases fuel with
    | zero => omega
    | succ fuel =>
      show (if i32 n ≤ i32 k + 1 then B_Wo_init_101 k16 (some A) (some aT) (i32 n) v3 (i32 k) c (M w) else _) = _
      rw [i32_succ, if_pos ((i32_le (by omega) (by omega)).mpr (by omega))]
      rfl
  | succ m ih =>
    intro k fuel hk hf
    cases fuel with
    | zero => omega
    | succ fuel =>
      show (if i32 n ≤ i32 k + 1 then B_Wo_init_101 k16 (some A) (some aT) (i32 n) v3 (i32 k) c (M w) else b1 (aI (M w) (some aT) 2 (i32 k + 1)) (fun x89 => if x89 = c then B_Wo_init_76 k16 fuel (some A) (some aT) (i32 n) v3 (i32 k + 1) c (M w) else B_Wo_init_101 k16 (some A) (some aT) (i32 n) v3 (i32 k) c (M w))) = _
      rw [i32_succ, if_neg (fun q => by have := (i32_le (by omega) (by omega)).mp q; omega), hT _ _ (by omega), b1_some]
      show _ = B_Wo_init_101 k16 (some A) (some aT) (i32 n) v3 (i32 ((if t (k + 1) = c then skF t c m (k + 1 + 1) else k + 1) - 1)) c (M w)
      by_cases h1 : t (k + 1) = c
      · rw [if_pos h1, if_pos h1]
        exact ih (k + 1) fuel (by omega) (by omega)
      · rw [if_neg h1, if_neg h1]
        rfl
theorem Wo_fold {M : (Nat → Int32) → Mem} {A al aT n : Nat} {t : Nat → Int32} (ht : ltr n t) (hA : ∀ w, gR (M w) (some A) 10 0 = some (some al)) (hT : ∀ w k, k < n → aI (M w) (some aT) 2 (i32 k) = some (t k)) (hL : ∀ w k, k < n → aI (M w) (some al) 2 (i32 k) = some (w k)) (hS : ∀ w k c, k < n → sI (M w) (some al) 2 (i32 k) c = some (M (upd w k c))) (m : Nat) : ∀ (k made fuel : Nat) (w : Nat → Int32), n ≤ k + m → made ≤ k → k ≤ n → m < fuel → B_Wo_init_16 fuel (some A) (some aT) (i32 n) (i32 made) (i32 k) (M w) = b1 (pV (M (foF t n m k made w).2) (some A) 10 1 (vI (i32 (foF t n m k made w).1))) (fun m137 => some ((), m137)) := by
  have hn := ht.1
  induction m with
  | zero =>
    intro k made fuel w hk hm hkn hf
    cases fuel with
    | zero => omega
    | succ fuel =>
      show (if i32 n ≤ i32 k then b1 (pV (M w) (some A) 10 1 (vI (i32 made))) (fun m137 => some ((), m137)) else _) = _
      rw [if_pos ((i32_le (by omega) (by omega)).mpr (by omega))]
      rfl
  | succ m ih =>
    intro k made fuel w hk hm hkn hf
    cases fuel with
    | zero => omega
    | succ fuel =>
      show (if i32 n ≤ i32 k then b1 (pV (M w) (some A) 10 1 (vI (i32 made))) (fun m137 => some ((), m137)) else if i32 n ≤ i32 k + 1 then B_Wo_init_47 (fun v0 v1 v2 v3 v4 μ => B_Wo_init_16 fuel v0 v1 v2 v3 v4 μ) (some A) (some aT) (i32 n) (i32 made) (i32 k) 0 (M w) else b1 (aI (M w) (some aT) 2 (i32 k)) (fun x33 => b1 (aI (M w) (some aT) 2 (i32 k + 1)) (fun x39 => b1 (S_Wo_joinedLetter x33 x39 (M w)) (fun x40 => B_Wo_init_47 (fun v0 v1 v2 v3 v4 μ => B_Wo_init_16 fuel v0 v1 v2 v3 v4 μ) (some A) (some aT) (i32 n) (i32 made) (i32 k) x40 (M w))))) = _
      unfold foF
      by_cases hnk : n ≤ k
      · rw [if_pos ((i32_le (by omega) (by omega)).mpr hnk), if_pos hnk]
      · rw [if_neg (fun q => hnk ((i32_le (by omega) (by omega)).mp q)), if_neg hnk]
        have h47 : (if i32 n ≤ i32 k + 1 then B_Wo_init_47 (fun v0 v1 v2 v3 v4 μ => B_Wo_init_16 fuel v0 v1 v2 v3 v4 μ) (some A) (some aT) (i32 n) (i32 made) (i32 k) 0 (M w) else b1 (aI (M w) (some aT) 2 (i32 k)) (fun x33 => b1 (aI (M w) (some aT) 2 (i32 k + 1)) (fun x39 => b1 (S_Wo_joinedLetter x33 x39 (M w)) (fun x40 => B_Wo_init_47 (fun v0 v1 v2 v3 v4 μ => B_Wo_init_16 fuel v0 v1 v2 v3 v4 μ) (some A) (some aT) (i32 n) (i32 made) (i32 k) x40 (M w))))) = B_Wo_init_47 (fun v0 v1 v2 v3 v4 μ => B_Wo_init_16 fuel v0 v1 v2 v3 v4 μ) (some A) (some aT) (i32 n) (i32 made) (i32 k) (prA t n k) (M w) := by
          unfold prA
          by_cases h1 : k + 1 < n
          · rw [i32_succ, if_neg (fun q => by have := (i32_le (by omega) (by omega)).mp q; omega), if_pos h1, hT _ _ (by omega), b1_some, hT _ _ h1, b1_some, S_joined, b1_some]
          · rw [i32_succ, if_pos ((i32_le (by omega) (by omega)).mpr (by omega)), if_neg h1]
        rw [h47]
        have h63 : B_Wo_init_47 (fun v0 v1 v2 v3 v4 μ => B_Wo_init_16 fuel v0 v1 v2 v3 v4 μ) (some A) (some aT) (i32 n) (i32 made) (i32 k) (prA t n k) (M w) = B_Wo_init_101 (fun v0 v1 v2 v3 v4 μ => B_Wo_init_16 fuel v0 v1 v2 v3 v4 μ) (some A) (some aT) (i32 n) (i32 made) (i32 (foN t n k - 1)) (foC t n k) (M w) := by
          unfold B_Wo_init_47 B_Wo_init_63 foN foC
          by_cases h0 : prA t n k = 0
          · rw [if_pos h0, if_pos h0, if_pos h0, hT _ _ (by omega), b1_some, if_pos h0]
            exact Wo_skip hT hn _ w (n - (k + 1)) k fu (by omega) (by show n - (k + 1) < 4096; omega)
          · rw [if_neg h0, if_neg h0, if_neg h0, if_neg h0, i32_succ]
            rfl
        have hg := foN_gt t (show k < n by omega)
        rw [h63, Wo_tail hA hL hS hn (show made < n by omega) (foC_ltr ht (by omega)), i32_succ, show foN t n k - 1 + 1 = foN t n k by omega]
        by_cases h2 : made ≠ 0 ∧ w (made - 1) = foC t n k
        · rw [if_pos h2, if_pos h2]
          exact ih _ _ _ _ (by omega) (by omega) hg.2 (by omega)
        · rw [if_neg h2, if_neg h2]
          exact ih _ _ _ _ (by omega) (by omega) hg.2 (by omega)
/-! the reference's -/
def fQ (ρ : RS) (made : Nat) (w : Nat → Int32) : RS := rpI (rset ρ 39 w) 38 (i32 made)
theorem fQ_put (ρ : RS) (made : Nat) (w u : Nat → Int32) (x : Int32) (h : x = i32 (made + 1)) : rpI (rset (fQ ρ made w) 39 u) 38 x = fQ ρ (made + 1) u := by
  rw [h]
  show (va_up (va_up (ri ρ) 38 (i32 made)) 38 (i32 (made + 1)), rl ρ, va_up (va_up (ra ρ) 39 w) 39 u, rL ρ) = (va_up (ri ρ) 38 (i32 (made + 1)), rl ρ, va_up (ra ρ) 39 u, rL ρ)
  rw [up2, up2]
theorem R_typed {ρ : RS} {n : Nat} {t : Nat → Int32} (h21 : ri ρ 21 = i32 n) (hn : n ≤ 10) (h22 : ∀ k, k < n → ra ρ 22 k = t k) {k : Nat} (hk : k < 2 ^ 31) : R_M_typedAt (i32 k) ρ = some (if k < n then t k else 0) := by
  unfold R_M_typedAt RB_M_typedAt_18
  rw [h21]
  by_cases h : k < n
  · rw [if_neg (fun q => by have := (i32_le (by omega) hk).mp q; omega), rgI_at (by omega) (by decide), b1_some, if_pos h, h22 k h]
  · rw [if_pos ((i32_le (by omega) hk).mpr (by omega)), if_neg h]
theorem R_pair {ρ : RS} {n : Nat} {t : Nat → Int32} (h21 : ri ρ 21 = i32 n) (hn : n ≤ 10) (h22 : ∀ k, k < n → ra ρ 22 k = t k) {k : Nat} (hk : k < n) : R_M_pairAt (i32 k) ρ = some (prA t n k) := by
  unfold R_M_pairAt
  rw [R_typed h21 hn h22 (by omega), b1_some, i32_succ, R_typed h21 hn h22 (by omega), b1_some, R_jn, if_pos hk]
  unfold prA
  split
  · rfl
  · rw [jn_zero]
theorem R_tail {ρ : RS} {n made : Nat} (hn : n ≤ 10) (hm : made < n) {c v3 : Int32} (k7 : Int32 → RS → Option (Unit × RS)) (w : Nat → Int32) : RB_M_foldTyped_55 k7 c v3 (fQ ρ made w) = if made ≠ 0 ∧ w (made - 1) = c then k7 v3 (fQ ρ made w) else k7 v3 (fQ ρ (made + 1) (upd w made c)) := by
  have h38 : ri (fQ ρ made w) 38 = i32 made := rfl
  have h77 : RB_M_foldTyped_77 k7 c v3 (fQ ρ made w) = k7 v3 (fQ ρ (made + 1) (upd w made c)) := by
    unfold RB_M_foldTyped_77 RB_M_foldTyped_97
    rw [h38, rsI_at (by omega) (by decide), b1_some, b0_eq]
    rw [show ri (rset (fQ ρ made w) 39 (upd (ra (fQ ρ made w) 39) made c)) 38 = i32 made from rfl, i32_succ, fQ_put _ _ _ _ _ rfl]
    rfl
  unfold RB_M_foldTyped_55 RB_M_foldTyped_97
  rw [h77, h38]
  by_cases h0 : made = 0
  · subst h0
    rw [if_pos (show i32 0 = 0 from rfl), if_neg (fun q => q.1 rfl)]
  · rw [if_neg (show ¬ i32 made = 0 from fun q => h0 ((i32_inj (b := 0) (by omega) (by decide)).mp q)), show i32 made - 1 = i32 (made - 1) from i32_sub (b := 1) (by omega), rgI_at (by omega) (by decide), b1_some]
    rw [show ra (fQ ρ made w) 39 (made - 1) = w (made - 1) from rfl]
    by_cases h1 : w (made - 1) = c
    · rw [if_pos h1, if_pos ⟨h0, h1⟩]
    · rw [if_neg h1, if_neg (fun q => h1 q.2)]
theorem R_skip {ρ : RS} {n : Nat} {t : Nat → Int32} (h21 : ri ρ 21 = i32 n) (hn : n ≤ 10) (h22 : ∀ k, k < n → ra ρ 22 k = t k) {c : Int32} (hc : c ≠ 0) (k7 : Int32 → RS → Option (Unit × RS)) (m : Nat) : ∀ (k fuel : Nat), k + m = n → m < fuel → RB_M_foldTyped_40 k7 fuel c (i32 k) ρ = RB_M_foldTyped_55 k7 c (i32 (skF t c m k)) ρ := by
  induction m with
  | zero =>
    intro k fuel hk hf
    cases fuel with
    | zero => omega
    | succ fuel =>
      show b1 (R_M_typedAt (i32 k) ρ) (fun x42 => if x42 = c then RB_M_foldTyped_40 k7 fuel c (i32 k + 1) ρ else RB_M_foldTyped_55 k7 c (i32 k) ρ) = _
      rw [R_typed h21 hn h22 (by omega), b1_some, if_neg (show ¬ k < n by omega), if_neg (fun q => hc q.symm)]
      rfl
  | succ m ih =>
    intro k fuel hk hf
    cases fuel with
    | zero => omega
    | succ fuel =>
      show b1 (R_M_typedAt (i32 k) ρ) (fun x42 => if x42 = c then RB_M_foldTyped_40 k7 fuel c (i32 k + 1) ρ else RB_M_foldTyped_55 k7 c (i32 k) ρ) = _
      rw [R_typed h21 hn h22 (by omega), b1_some, if_pos (show k < n by omega), i32_succ]
      show _ = RB_M_foldTyped_55 k7 c (i32 (if t k = c then skF t c m (k + 1) else k)) ρ
      by_cases h1 : t k = c
      · rw [if_pos h1, if_pos h1]
        exact ih (k + 1) fuel (by omega) (by omega)
      · rw [if_neg h1, if_neg h1]
theorem R_fold {ρ : RS} {n : Nat} {t : Nat → Int32} (ht : ltr n t) (h21 : ri ρ 21 = i32 n) (h22 : ∀ k, k < n → ra ρ 22 k = t k) (m : Nat) : ∀ (k made fuel : Nat) (w : Nat → Int32), n ≤ k + m → made ≤ k → k ≤ n → m < fuel → RB_M_foldTyped_7 fuel (i32 k) (fQ ρ made w) = some ((), fQ ρ (foF t n m k made w).1 (foF t n m k made w).2) := by
  have hn := ht.1
  induction m with
  | zero =>
    intro k made fuel w hk hm hkn hf
    cases fuel with
    | zero => omega
    | succ fuel =>
      show (if ri (fQ ρ made w) 21 ≤ i32 k then some ((), fQ ρ made w) else _) = _
      rw [show ri (fQ ρ made w) 21 = i32 n from h21, if_pos ((i32_le (by omega) (by omega)).mpr (by omega))]
      rfl
  | succ m ih =>
    intro k made fuel w hk hm hkn hf
    cases fuel with
    | zero => omega
    | succ fuel =>
      show (if ri (fQ ρ made w) 21 ≤ i32 k then some ((), fQ ρ made w) else b1 (R_M_pairAt (i32 k) (fQ ρ made w)) (fun x17 => b0 (i32 k + 2) (fun x24 => if x17 = 0 then b1 (rgI (fQ ρ made w) 22 10 (i32 k)) (fun x34 => b0 (i32 k + 1) (fun x39 => RB_M_foldTyped_40 (fun v1 ρ => RB_M_foldTyped_7 fuel v1 ρ) fu x34 x39 (fQ ρ made w))) else RB_M_foldTyped_55 (fun v1 ρ => RB_M_foldTyped_7 fuel v1 ρ) x17 x24 (fQ ρ made w)))) = _
      rw [show ri (fQ ρ made w) 21 = i32 n from h21]
      unfold foF
      by_cases hnk : n ≤ k
      · rw [if_pos ((i32_le (by omega) (by omega)).mpr hnk), if_pos hnk]
      · rw [if_neg (fun q => hnk ((i32_le (by omega) (by omega)).mp q)), if_neg hnk]
        have hg := foN_gt t (show k < n by omega)
        have hp : R_M_pairAt (i32 k) (fQ ρ made w) = some (prA t n k) := R_pair (ρ := fQ ρ made w) h21 hn h22 (by omega)
        rw [hp, b1_some, b0_eq, show i32 k + 2 = i32 (k + 2) from i32_add k 2]
        have h55 : (if prA t n k = 0 then b1 (rgI (fQ ρ made w) 22 10 (i32 k)) (fun x34 => b0 (i32 k + 1) (fun x39 => RB_M_foldTyped_40 (fun v1 ρ => RB_M_foldTyped_7 fuel v1 ρ) fu x34 x39 (fQ ρ made w))) else RB_M_foldTyped_55 (fun v1 ρ => RB_M_foldTyped_7 fuel v1 ρ) (prA t n k) (i32 (k + 2)) (fQ ρ made w)) = RB_M_foldTyped_55 (fun v1 ρ => RB_M_foldTyped_7 fuel v1 ρ) (foC t n k) (i32 (foN t n k)) (fQ ρ made w) := by
          unfold foN foC
          by_cases h0 : prA t n k = 0
          · rw [if_pos h0, if_pos h0, if_pos h0, rgI_at (by omega) (by decide), b1_some, b0_eq, i32_succ, show ra (fQ ρ made w) 22 k = t k from h22 k (by omega)]
            exact R_skip (ρ := fQ ρ made w) h21 hn h22 (ltr_ne0 (ht.2 k (by omega))) _ (n - (k + 1)) (k + 1) fu (by omega) (by show n - (k + 1) < 4096; omega)
          · rw [if_neg h0, if_neg h0, if_neg h0]
        rw [h55, R_tail hn (show made < n by omega)]
        by_cases h2 : made ≠ 0 ∧ w (made - 1) = foC t n k
        · rw [if_pos h2, if_pos h2]
          exact ih _ _ _ _ (by omega) (by omega) hg.2 (by omega)
        · rw [if_neg h2, if_neg h2]
          exact ih _ _ _ _ (by omega) (by omega) hg.2 (by omega)
/-- the folded word: its length and letters -/
def foL (t : Nat → Int32) (n : Nat) : Nat := (foF t n n 0 0 (fun _ => 0)).1
def foW (t : Nat → Int32) (n : Nat) : Nat → Int32 := (foF t n n 0 0 (fun _ => 0)).2
theorem fo_ok {t : Nat → Int32} {n : Nat} (ht : ltr n t) : foL t n ≤ n ∧ ltr (foL t n) (foW t n) ∧ (1 ≤ n → 1 ≤ foL t n) := by
  obtain ⟨h1, h2, h3, h4⟩ := fo_bd ht n 0 0 (fun _ => 0) (Nat.le_refl _) (Nat.zero_le _) ⟨by omega, fun k hk => absurd hk (Nat.not_lt_zero k)⟩
  exact ⟨h1, h3, fun h => h4 (by omega) (by omega)⟩
theorem R_foldTyped_eq {ρ : RS} {n : Nat} {t : Nat → Int32} (ht : ltr n t) (h21 : ri ρ 21 = i32 n) (h22 : ∀ k, k < n → ra ρ 22 k = t k) : ∃ w, R_M_foldTyped ρ = some ((), fQ ρ (foL t n) w) ∧ ∀ k, k < foL t n → w k = foW t n k := by
  have h := R_fold ht h21 h22 n 0 0 fu (ra ρ 39) (by omega) (Nat.le_refl _) (Nat.zero_le _) (by have := ht.1; show n < 4096; omega)
  have hi := fo_ind t n n 0 0 (ra ρ 39) (fun _ => 0) (fun j hj => absurd hj (Nat.not_lt_zero j))
  refine ⟨(foF t n n 0 0 (ra ρ 39)).2, ?_, fun k hk => hi.2 k (by rw [hi.1]; exact hk)⟩
  unfold R_M_foldTyped
  rw [b0_eq, show (0 : Int32) = i32 0 from rfl]
  have hq : fQ ρ 0 (ra ρ 39) = rpI ρ 38 (i32 0) := by
    show (va_up (ri ρ) 38 (i32 0), rl ρ, va_up (ra ρ) 39 (ra ρ 39), rL ρ) = (va_up (ri ρ) 38 (i32 0), rl ρ, ra ρ, rL ρ)
    have : va_up (ra ρ) 39 (ra ρ 39) = ra ρ := by
      funext q
      unfold va_up
      grind
    rw [this]
  rw [← hq, h, hi.1]
  rfl
