/-! inside a place, below a place -/
def aiF (n : Nat) (X Y X2 Y2 : Nat → Int32) : Nat → Nat → Bool
  | 0, _ => true
  | m + 1, k => if insF n X Y (X2 k) (Y2 k) n 0 0 = 0 then false else aiF n X Y X2 Y2 m (k + 1)
theorem Co_all {μ : Mem} {a b n n2 : Nat} {X Y X2 Y2 : Nat → Int32} (h : CO μ a n X Y) (h2 : CO μ b n2 X2 Y2) (m : Nat) : ∀ (k fuel : Nat), k + m = n2 → m < fuel → B_Co_hasAllInside_2 μ fuel (some a) (some b) (i32 k) = some (if aiF n X Y X2 Y2 m k then 1 else 0) := by
  obtain ⟨bx, by', c1, c2, c3, c4, c5, c6, c7⟩ := h2.v
  obtain ⟨fs, hc⟩ := h.cell
  induction m with
  | zero =>
    intro k fuel hk hf
    cases fuel with
    | zero => omega
    | succ fuel =>
      show b1 (gI μ (some b) 2 0) (fun x4 => if x4 ≤ i32 k then gd (¬ okZ 1 = true) (some 1) else _) = _
      rw [c1, b1_some, if_pos ((i32_le (by omega) (by omega)).mpr (by omega))]
      exact gd1
  | succ m ih =>
    intro k fuel hk hf
    cases fuel with
    | zero => omega
    | succ fuel =>
      show b1 (gI μ (some b) 2 0) (fun x4 => if x4 ≤ i32 k then _ else b1 (gR μ (some b) 2 1) (fun x12 => b1 (aI μ x12 0 (i32 k)) (fun x16 => b1 (gR μ (some b) 2 2) (fun x18 => b1 (aI μ x18 0 (i32 k)) (fun x22 => b1 (rc μ (some a) 2) (fun _ => b1 (S_Co_hasInside (some a) x16 x22 μ) (fun x23 => if x23 = 0 then gd (¬ okZ 0 = true) (some 0) else B_Co_hasAllInside_2 μ fuel (some a) (some b) (i32 k + 1)))))))) = some (if (if insF n X Y (X2 k) (Y2 k) n 0 0 = 0 then false else aiF n X Y X2 Y2 m (k + 1)) then 1 else 0)
      rw [c1, b1_some, if_neg (fun q => by have := (i32_le (by omega) (by omega)).mp q; omega), c2, b1_some, c5 k (by omega), b1_some, c3, b1_some, c6 k (by omega), b1_some, rc_at hc, b1_some, Co_hasInside_eq h, b1_some]
      by_cases hz : insF n X Y (X2 k) (Y2 k) n 0 0 = 0
      · rw [if_pos hz, if_pos hz]
        exact gd0
      · rw [if_neg hz, if_neg hz, i32_succ, ih (k + 1) fuel (by omega) (by omega)]
theorem R_all {ρ : RS} {s t n n2 : Nat} {X Y X2 Y2 : Nat → Int32} (hs : s < 90) (ht : t < 90) (hn : ra ρ 6 s = i32 n) (h8 : n ≤ 8) (hX : ∀ k, k < n → ra ρ 7 (8 * s + k) = X k) (hY : ∀ k, k < n → ra ρ 8 (8 * s + k) = Y k) (hB : ∀ k, k < n → inB (X k) ∧ inB (Y k)) (hn2 : ra ρ 6 t = i32 n2) (h82 : n2 ≤ 8) (hX2 : ∀ k, k < n2 → ra ρ 7 (8 * t + k) = X2 k) (hY2 : ∀ k, k < n2 → ra ρ 8 (8 * t + k) = Y2 k) (hB2 : ∀ k, k < n2 → inB (X2 k) ∧ inB (Y2 k)) (m : Nat) : ∀ (k fuel : Nat), k + m = n2 → m < fuel → RB_M_isInside_41 ρ fuel (i32 s) (i32 t) 0 (i32 k) = some 0 ∧ RB_M_isInside_41 ρ fuel (i32 s) (i32 t) 1 (i32 k) = some (if aiF n X Y X2 Y2 m k then 1 else 0) := by
  have h6 : rgI ρ 6 90 (i32 t) = some (i32 n2) := by rw [rgI_at ht (by decide), hn2]
  induction m with
  | zero =>
    intro k fuel hk hf
    cases fuel with
    | zero => omega
    | succ fuel =>
      have hle : i32 n2 ≤ i32 k := (i32_le (by omega) (by omega)).mpr (by omega)
      constructor
      · show b1 (rgI ρ 6 90 (i32 t)) (fun x49 => if x49 ≤ i32 k then gd (¬ okZ 0 = true) (some 0) else _) = _
        rw [h6, b1_some, if_pos hle]
        exact gd0
      · show b1 (rgI ρ 6 90 (i32 t)) (fun x49 => if x49 ≤ i32 k then gd (¬ okZ 1 = true) (some 1) else _) = _
        rw [h6, b1_some, if_pos hle]
        exact gd1
  | succ m ih =>
    intro k fuel hk hf
    cases fuel with
    | zero => omega
    | succ fuel =>
      have hle : ¬ i32 n2 ≤ i32 k := fun q => by have := (i32_le (by omega) (by omega)).mp q; omega
      obtain ⟨i1, i2⟩ := ih (k + 1) fuel (by omega) (by omega)
      constructor
      · show b1 (rgI ρ 6 90 (i32 t)) (fun x49 => if x49 ≤ i32 k then _ else if (0 : Int32) = 0 then RB_M_isInside_41 ρ fuel (i32 s) (i32 t) 0 (i32 k + 1) else _) = _
        rw [h6, b1_some, if_neg hle, if_pos rfl, i32_succ, i1]
      · show b1 (rgI ρ 6 90 (i32 t)) (fun x49 => if x49 ≤ i32 k then _ else if (1 : Int32) = 0 then _ else b1 (rgI ρ 7 720 ((8 * i32 t) + i32 k)) (fun x73 => b1 (rgI ρ 8 720 ((8 * i32 t) + i32 k)) (fun x86 => b1 (R_M_liesIn (i32 s) x73 x86 ρ) (fun x87 => if x87 = 0 then RB_M_isInside_41 ρ fuel (i32 s) (i32 t) 0 (i32 k + 1) else RB_M_isInside_41 ρ fuel (i32 s) (i32 t) 1 (i32 k + 1))))) = some (if (if insF n X Y (X2 k) (Y2 k) n 0 0 = 0 then false else aiF n X Y X2 Y2 m (k + 1)) then 1 else 0)
        rw [h6, b1_some, if_neg hle, if_neg (by decide), i32_8, rgI_at (by omega) (by decide), b1_some, rgI_at (by omega) (by decide), b1_some, hX2 k (by omega), hY2 k (by omega), R_liesIn_eq hs hn h8 hX hY hB (hB2 k (by omega)).1 (hB2 k (by omega)).2, b1_some, i32_succ, i1, i2]
        by_cases hz : insF n X Y (X2 k) (Y2 k) n 0 0 = 0
        · rw [if_pos hz, if_pos hz]
          rfl
        · rw [if_neg hz, if_neg hz]
theorem inside_eq {ro : Nat → Nat} {μ : Mem} {ρ : RS} {pl : Nat → Nat} {N i p c lPl aX aY nc rt aT nt lC aW hH eE rR an k a : Nat} (day : Int32) (h1 : Is ro μ c 2 (PFc lPl aX aY nc rt aT nt lC aW hH eE rR an)) (h2 : IPs ro μ ρ pl N lPl) (hi : i < N) (hp : p < N) (hk : k < 3) (s2 : R_M_shapeOf (i32 i) day ρ = some (i32 (3 * i + k))) (s3 : IZ ro μ ρ (3 * i + k) a) : ∃ r : Int32, S_P_liesInPlace (some c) (some a) (i32 p) day μ = some r ∧ R_M_isInside (i32 i) (i32 p) day ρ = some r ∧ (r = 0 ∨ r = 1) := by
  have hN := h2.2.1
  obtain ⟨k', a', o, t1, t2, t3, t4, t5, t6⟩ := (h2.2.2.2 p hp).shape (by omega) day
  obtain ⟨sh, sd, nm, lk, p1, p2⟩ := h2.2.2.2 p hp
  have hx : 0 ≤ i32 p ∧ i32 p < i32 N := ⟨i32_nlt.mp (i32_nn (by omega)), (i32_lt (by omega) (by omega)).mpr hp⟩
  have hS : S_P_liesInPlace (some c) (some a) (i32 p) day μ = b1 (S_Pl_shapeOn (some (pl p)) day μ) (fun x17 => if x17 = none then B_P_liesInPlace_48 μ else b1 (rc μ x17 2) (fun _ => b1 (S_Co_isArea x17 μ) (fun x29 => if x29 = 0 then B_P_liesInPlace_48 μ else b1 (rc μ x17 2) (fun _ => b1 (S_Co_hasAllInside x17 (some a) μ) (fun x38 => if x38 = 0 then B_P_liesInPlace_48 μ else B_P_liesInPlace_49 μ 1))))) := by
    unfold S_P_liesInPlace
    rw [rc_at h1.1, b1_some, P_placeOf_eq h1 h2, b1_some, if_pos hx, if_neg (some_ne _), i32_nat (by omega), rc_at p1.1, b1_some]
  have z0 : B_P_liesInPlace_48 μ = some 0 := gd0
  have z1 : B_P_liesInPlace_49 μ 1 = some 1 := gd1
  have zr : RB_M_isInside_25 ρ = some 0 := gd0
  rw [hS, z0, z1]
  unfold R_M_isInside
  rw [t1, t2, b1_some, b1_some, zr]
  cases o with
  | false => exact ⟨0, rfl, rfl, .inl rfl⟩
  | true =>
    obtain ⟨n, y1, y2, y3, y4, y5, y6⟩ := t6 rfl
    obtain ⟨n2, w1, w2, w3, w4, w5, w6⟩ := s3
    obtain ⟨fs, hc⟩ := y4.co.cell
    have hne : ¬ (i32 (3 * p + k') = -1) := by
      intro q
      have h1 : (i32 (3 * p + k')).toInt = (-1 : Int32).toInt := by rw [q]
      rw [i32_int (by omega), show (-1 : Int32).toInt = -1 from rfl] at h1
      omega
    rw [show (if true = true then some a' else none) = some a' from rfl, show (if true = true then i32 (3 * p + k') else -1) = i32 (3 * p + k') from rfl, if_neg (some_ne _), rc_at hc, b1_some, Co_isArea_eq y4.co, b1_some, if_neg hne, rgI_at (by omega) (by decide), y1, b1_some]
    rcases y6 with y6 | y6
    · rw [if_pos (bI_neg (fun q => by omega)), b1_some, if_pos (show i32 n = 1 from by rw [y6]; rfl)]
      exact ⟨0, rfl, rfl, .inl rfl⟩
    · rw [if_neg (by rw [bI_pos y6]; decide), b1_some, if_neg (show ¬ i32 n = 1 from fun q => by have := (i32_inj (b := 1) (by omega) (by decide)).mp q; omega), s2, b1_some]
      have hA := Co_all y4.co w4.co n2 0 fu (by omega) (by show n2 < 4096; omega)
      have hB := (R_all (ρ := ρ) (s := 3 * p + k') (t := 3 * i + k) (by omega) (by omega) y1 y3 (fun j _ => rfl) (fun j _ => rfl) y5 w1 w3 (fun j _ => rfl) (fun j _ => rfl) w5 n2 0 fu (by omega) (by show n2 < 4096; omega)).2
      have hA' : S_Co_hasAllInside (some a') (some a) μ = _ := hA
      rw [hA', b1_some, show (0 : Int32) = i32 0 from rfl, hB]
      by_cases hb : aiF n (fun k => ra ρ 7 (8 * (3 * p + k') + k)) (fun k => ra ρ 8 (8 * (3 * p + k') + k)) (fun k_1 => ra ρ 7 (8 * (3 * i + k) + k_1)) (fun k_1 => ra ρ 8 (8 * (3 * i + k) + k_1)) n2 0 = true
      · rw [if_pos hb]
        exact ⟨1, rfl, by rw [if_pos hb], .inr rfl⟩
      · rw [if_neg hb]
        exact ⟨0, rfl, by rw [if_neg hb], .inl rfl⟩
