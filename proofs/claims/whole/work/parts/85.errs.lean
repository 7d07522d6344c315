/-! the least number of errors, on both sides -/
theorem i32_min {x y : Nat} (hx : x < 2 ^ 31) (hy : y < 2 ^ 31) : (if i32 y < i32 x then i32 y else i32 x) = i32 (min x y) := by
  by_cases h : y < x
  · rw [if_pos ((i32_lt hy hx).mpr h), Nat.min_eq_right (by omega)]
  · rw [if_neg (fun q => h ((i32_lt hy hx).mp q)), Nat.min_eq_left (by omega)]
theorem i32_min2 {x y : Nat} (hx : x < 2 ^ 31) (hy : y < 2 ^ 31) {α : Type} (K : Int32 → α) : (if i32 x ≤ i32 y then K (i32 x) else K (i32 y)) = K (i32 (min x y)) := by
  by_cases h : x ≤ y
  · rw [if_pos ((i32_le hx hy).mpr h), Nat.min_eq_left h]
  · rw [if_neg (fun q => h ((i32_le hx hy).mp q)), Nat.min_eq_right (by omega)]
theorem errE_sss (w u : Nat → Int32) (i j : Nat) : errE w u (i + 2) (j + 2) = if w (i + 1) = u j ∧ w i = u (j + 1) then min (min (errE w u (i + 1) (j + 1) + (if w (i + 1) = u (j + 1) then 0 else 1)) (min (errE w u (i + 1) (j + 2)) (errE w u (i + 2) (j + 1)) + 1)) (errE w u i j + 1) else min (errE w u (i + 1) (j + 1) + (if w (i + 1) = u (j + 1) then 0 else 1)) (min (errE w u (i + 1) (j + 2)) (errE w u (i + 2) (j + 1)) + 1) := by
  rw [errE_ss w u (i + 1) (j + 1)]
  by_cases h : w (i + 1) = u j ∧ w i = u (j + 1)
  · rw [if_pos h, if_pos ⟨by omega, by omega, h⟩]
    rfl
  · rw [if_neg h, if_neg (fun q => h q.2.2)]
theorem errE_s1 (w u : Nat → Int32) (i j : Nat) (h : i = 0 ∨ j = 0) : errE w u (i + 1) (j + 1) = min (errE w u i j + (if w i = u j then 0 else 1)) (min (errE w u i (j + 1)) (errE w u (i + 1) j) + 1) := by
  rw [errE_ss, if_neg (fun q => by omega)]
theorem i32_m1 (n : Nat) : i32 (n + 1) - 1 = i32 n := i32_sub (a := n + 1) (b := 1) (by omega)
theorem i32_m2 (n : Nat) : i32 (n + 2) - 2 = i32 n := i32_sub (a := n + 2) (b := 2) (by omega)
theorem Ec_least {μ : Mem} {e lt al bl p q : Nat} {rr : Nat → Nat} {F : Nat → Nat → Int32} {w u : Nat → Int32} (he : gR μ (some e) 3 0 = some (some lt)) (hl : ∀ i, i < 11 → aR μ (some lt) 6 (i32 i) = some (some (rr i))) (hF : ∀ i j, i < 11 → j < 11 → aI μ (some (rr i)) 0 (i32 j) = some (F i j)) (ha : ∀ k, k < p → aI μ (some al) 2 (i32 k) = some (w k)) (hb : ∀ k, k < q → aI μ (some bl) 2 (i32 k) = some (u k)) (hp : p ≤ 10) (hq : q ≤ 10) {i j : Nat} (hi : i ≤ p) (hj : j ≤ q) (hfill : ∀ i' j', j' ≤ q → (i' < i ∨ (i' = i ∧ j' < j)) → F i' j' = i32 (errE w u i' j')) : S_Ec_leastFor (some e) (some al) (i32 i) (some bl) (i32 j) μ = some (i32 (errE w u i j)) := by
  unfold S_Ec_leastFor B_Ec_leastFor_9
  cases i with
  | zero =>
    rw [if_pos (show i32 0 = 0 from rfl), i32_add, errE_0, Nat.zero_add]
  | succ i =>
    rw [if_neg (show ¬ i32 (i + 1) = 0 from fun q => by have := (i32_inj (b := 0) (by omega) (by decide)).mp q; omega)]
    cases j with
    | zero => rw [if_pos (show i32 0 = 0 from rfl), i32_add, errE_s0]
    | succ j =>
      rw [if_neg (show ¬ i32 (j + 1) = 0 from fun q => by have := (i32_inj (b := 0) (by omega) (by decide)).mp q; omega)]
      have b1' := errE_le w u i j
      have b2' := errE_le w u i (j + 1)
      have b3' := errE_le w u (i + 1) j
      rw [he, b1_some, i32_m1, i32_m1, hl i (by omega), b1_some, hF i j (by omega) (by omega), hfill i j (by omega) (by omega), b1_some, ha i (by omega), b1_some, hb j (by omega), b1_some]
      have h46 : ∀ d : Nat, d ≤ 1 → d = (if w i = u j then 0 else 1) → B_Ec_leastFor_46 μ (some e) (some al) (i32 (i + 1)) (some bl) (i32 (j + 1)) (i32 (errE w u i j)) (i32 d) = some (i32 (errE w u (i + 1) (j + 1))) := by
        intro d hd hd2
        unfold B_Ec_leastFor_46
        rw [b0_eq, i32_add, he, b1_some, i32_m1, i32_m1, hl i (by omega), b1_some, hF i (j + 1) (by omega) (by omega), hfill i (j + 1) (by omega) (by omega), b1_some, b1_some, hl (i + 1) (by omega), b1_some, hF (i + 1) j (by omega) (by omega), hfill (i + 1) j (by omega) (by omega), b1_some, Ma_min_eq, b1_some, i32_min (by omega) (by omega), b0_eq, i32_succ, Ma_min_eq, b1_some, i32_min (by omega) (by omega)]
        unfold B_Ec_leastFor_130 B_Ec_leastFor_131 B_Ec_leastFor_163
        by_cases hi1 : i = 0
        · subst hi1
          rw [if_pos (show i32 (0 + 1) ≤ 1 from by decide), if_pos rfl, errE_s1 _ _ _ _ (.inl rfl), hd2]
        · by_cases hj1 : j = 0
          · subst hj1
            rw [if_neg (show ¬ i32 (i + 1) ≤ 1 from fun q => by have := (i32_le (b := 1) (by omega) (by decide)).mp q; omega), if_pos (show i32 (0 + 1) ≤ 1 from by decide), if_pos rfl, errE_s1 _ _ _ _ (.inr rfl), hd2]
          · obtain ⟨i2, rfl⟩ : ∃ i2, i = i2 + 1 := ⟨i - 1, by omega⟩
            obtain ⟨j2, rfl⟩ : ∃ j2, j = j2 + 1 := ⟨j - 1, by omega⟩
            have b4' := errE_le w u i2 j2
            rw [if_neg (show ¬ i32 (i2 + 1 + 1) ≤ 1 from fun q => by have := (i32_le (b := 1) (by omega) (by decide)).mp q; omega), if_neg (show ¬ i32 (j2 + 1 + 1) ≤ 1 from fun q => by have := (i32_le (b := 1) (by omega) (by decide)).mp q; omega), ha (i2 + 1) (by omega), b1_some, i32_m2, hb j2 (by omega), b1_some, errE_sss]
            by_cases c1 : w (i2 + 1) = u j2
            · rw [if_pos c1, i32_m2, ha i2 (by omega), b1_some, hb (j2 + 1) (by omega), b1_some]
              by_cases c2 : w i2 = u (j2 + 1)
              · rw [if_pos c2, if_neg (by decide), he, b1_some, hl i2 (by omega), b1_some, hF i2 j2 (by omega) (by omega), hfill i2 j2 (by omega) (by omega), b1_some, i32_succ, Ma_min_eq, b1_some, i32_min (by omega) (by omega), if_pos ⟨c1, c2⟩, hd2]
              · rw [if_neg c2, if_pos rfl, if_neg (fun q => c2 q.2), hd2]
            · rw [if_neg c1, if_pos rfl, if_neg (fun q => c1 q.1), hd2]
      by_cases hw : w i = u j
      · rw [if_pos hw]
        exact h46 0 (by omega) (by rw [if_pos hw])
      · rw [if_neg hw]
        exact h46 1 (by omega) (by rw [if_neg hw])
def RW (ro : Nat → Nat) (μ : Mem) (e lt : Nat) (fr : Nat → Option Nat) (rr : Nat → Nat) (F : Nat → Nat → Int32) : Prop := Is ro μ e 0 (.inr (3, [.ref lt])) ∧ Is ro μ lt 0 (.inl (6, 11, .inr (.inr (.inr (.inr fr))))) ∧ ∀ i, i < 11 → fr i = some (rr i) ∧ Is ro μ (rr i) (20 + i) (.inl (0, 11, .inl (F i)))
def WR (r : Nat) : Prop := 20 ≤ r ∧ r < 31
theorem IE.rw {ro : Nat → Nat} {μ : Mem} {a : Nat} (h : IE ro μ a) : ∃ lt fr rr F, RW ro μ a lt fr rr F := by
  obtain ⟨lt, fr, rr, h1, h2, h3⟩ := h
  have : ∃ F : Nat → Nat → Int32, ∀ i, i < 11 → Is ro μ (rr i) (20 + i) (.inl (0, 11, .inl (F i))) := by
    obtain ⟨F, hF⟩ := Classical.axiomOfChoice (r := fun (i : Nat) (f : Nat → Int32) => i < 11 → Is ro μ (rr i) (20 + i) (.inl (0, 11, .inl f))) (fun i => by
      by_cases hi : i < 11
      · obtain ⟨f, hf⟩ := (h3 i hi).2
        exact ⟨f, fun _ => hf⟩
      · exact ⟨fun _ => 0, fun q => absurd q hi⟩)
    exact ⟨F, hF⟩
  obtain ⟨F, hF⟩ := this
  exact ⟨lt, fr, rr, F, h1, h2, fun i hi => ⟨(h3 i hi).1, hF i hi⟩⟩
theorem RW.ie {ro : Nat → Nat} {μ : Mem} {e lt : Nat} {fr : Nat → Option Nat} {rr : Nat → Nat} {F : Nat → Nat → Int32} (h : RW ro μ e lt fr rr F) : IE ro μ e := ⟨lt, fr, rr, h.1, h.2.1, fun i hi => ⟨(h.2.2 i hi).1, F i, (h.2.2 i hi).2⟩⟩
theorem Ec_row {ro : Nat → Nat} {e lt one other p q i : Nat} {fr : Nat → Option Nat} {rr : Nat → Nat} {w u : Nat → Int32} (hp : p ≤ 10) (hq : q ≤ 10) (hi : i ≤ p) (k2 : Option Nat → Option Nat → Option Nat → Int32 → Mem → Option (Int32 × Mem)) (m : Nat) : ∀ (j fuel : Nat) (μ : Mem) (F : Nat → Nat → Int32), WF μ → LO μ → RW ro μ e lt fr rr F → WO0 ro μ one p w → WO0 ro μ other q u → (∀ i' j', j' ≤ q → (i' < i ∨ (i' = i ∧ j' < j)) → F i' j' = i32 (errE w u i' j')) → j + m = q + 1 → m < fuel → ∃ μ' F', B_Ec_count_13 k2 fuel (some e) (some one) (some other) (i32 i) (i32 j) μ = k2 (some e) (some one) (some other) (i32 (i + 1)) μ' ∧ Ext WR ro μ ro μ' ∧ RW ro μ' e lt fr rr F' ∧ ∀ i' j', j' ≤ q → i' < i + 1 → F' i' j' = i32 (errE w u i' j') := by
  induction m with
  | zero =>
    intro j fuel μ F wf lo hR h1 h2 hf hj hfu
    cases fuel with
    | zero => omega
    | succ fuel =>
      obtain ⟨bl, vo1, vo2, vo3, vo4, vo5⟩ := h2.wo.v
      refine ⟨μ, F, ?_, Ext.rf wf, hR, fun i' j' h1 h2 => hf i' j' h1 (by omega)⟩
      show b1 (gI μ (some other) 10 1) (fun x16 => if x16 < i32 j then k2 (some e) (some one) (some other) (i32 i + 1) μ else _) = _
      rw [vo1, b1_some, if_pos ((i32_lt (by omega) (by omega)).mpr (by omega)), i32_succ]
  | succ m ih =>
    intro j fuel μ F wf lo hR h1 h2 hf hj hfu
    cases fuel with
    | zero => omega
    | succ fuel =>
      obtain ⟨bl, vo1, vo2, vo3, vo4, vo5⟩ := h2.wo.v
      obtain ⟨al, vn1, vn2, vn3, vn4, vn5⟩ := h1.wo.v
      have hR2 := hR
      obtain ⟨r1, r2, r3⟩ := hR2
      have ve : gR μ (some e) 3 0 = some (some lt) := gR_at r1.1 rfl
      have vl : ∀ i, i < 11 → aR μ (some lt) 6 (i32 i) = some (some (rr i)) := fun i hi => by rw [aR_at r2.1 hi (by decide), (r3 i hi).1]
      have vF : ∀ i j, i < 11 → j < 11 → aI μ (some (rr i)) 0 (i32 j) = some (F i j) := fun i j hi hj => aI_at (r3 i hi).2.1 hj (by decide)
      have hls := Ec_least ve vl vF vn4 vo4 hp hq hi (show j ≤ q by omega) hf
      have hrow := (r3 i (by omega)).2
      have k1 : Ext WR ro μ ro (m_set μ (rr i) (.inl (0, 11, .inl (upd (F i) j (i32 (errE w u i j)))))) := Ext.set wf hrow ⟨by omega, by omega⟩ _
      have n0 : ¬ WR 0 := fun q => by unfold WR at q; omega
      have hR' : RW ro (m_set μ (rr i) (.inl (0, 11, .inl (upd (F i) j (i32 (errE w u i j)))))) e lt fr rr (fun i' => if i' = i then upd (F i) j (i32 (errE w u i j)) else F i') := by
        refine ⟨r1.ext k1 n0, r2.ext k1 n0, fun i' hi' => ⟨(r3 i' hi').1, ?_⟩⟩
        dsimp only
        by_cases hii : i' = i
        · rw [if_pos hii, hii]
          exact hrow.set ro _
        · rw [if_neg hii]
          exact (r3 i' hi').2.keep hrow (by omega) _
      obtain ⟨μ', F', q1, q2, q3, q4⟩ := ih (j + 1) fuel _ _ k1.wf (k1.lo wf lo) hR' (h1.ext k1 n0) (h2.ext k1 n0) (fun i' j' hj' hc => by
        by_cases hii : i' = i
        · rw [if_pos hii, hii]
          by_cases hjj : j' = j
          · rw [hjj, upd_at]
          · rw [upd_ne _ _ hjj]
            exact hf i j' hj' (by omega)
        · rw [if_neg hii]
          exact hf i' j' hj' (by omega)) (by omega) (by omega)
      refine ⟨μ', F', ?_, k1.tr q2, q3, q4⟩
      show b1 (gI μ (some other) 10 1) (fun x16 => if x16 < i32 j then k2 (some e) (some one) (some other) (i32 i + 1) μ else b1 (gR μ (some e) 3 0) (fun x23 => b1 (aR μ x23 6 (i32 i)) (fun x27 => b1 (gR μ (some one) 10 0) (fun x32 => b1 (gR μ (some other) 10 0) (fun x37 => b1 (rc μ (some e) 3) (fun _ => b1 (S_Ec_leastFor (some e) x32 (i32 i) x37 (i32 j) μ) (fun x42 => b1 (sI μ x27 0 (i32 j) x42) (fun m45 => B_Ec_count_13 k2 fuel (some e) (some one) (some other) (i32 i) (i32 j + 1) m45)))))))) = _
      rw [vo1, b1_some, if_neg (fun q => by have := (i32_lt (by omega) (by omega)).mp q; omega), ve, b1_some, vl i (by omega), b1_some, vn2, b1_some, vo2, b1_some, rc_at r1.1, b1_some, hls, b1_some, sI_at _ hrow.1 (hrow.low lo) (by omega) (by decide), b1_some, i32_succ, q1]
theorem Ec_tab {ro : Nat → Nat} {e lt one other p q : Nat} {fr : Nat → Option Nat} {rr : Nat → Nat} {w u : Nat → Int32} (hp : p ≤ 10) (hq : q ≤ 10) (m : Nat) : ∀ (i fuel : Nat) (μ : Mem) (F : Nat → Nat → Int32), WF μ → LO μ → RW ro μ e lt fr rr F → WO0 ro μ one p w → WO0 ro μ other q u → (∀ i' j', j' ≤ q → i' < i → F i' j' = i32 (errE w u i' j')) → i + m = p + 1 → m < fuel → ∃ μ', B_Ec_count_2 fuel (some e) (some one) (some other) (i32 i) μ = some (i32 (errE w u p q), μ') ∧ Ext WR ro μ ro μ' ∧ IE ro μ' e := by
  induction m with
  | zero =>
    intro i fuel μ F wf lo hR h1 h2 hf hi hfu
    cases fuel with
    | zero => omega
    | succ fuel =>
      obtain ⟨bl, vo1, vo2, vo3, vo4, vo5⟩ := h2.wo.v
      obtain ⟨al, vn1, vn2, vn3, vn4, vn5⟩ := h1.wo.v
      have hR2 := hR
      obtain ⟨r1, r2, r3⟩ := hR2
      refine ⟨μ, ?_, Ext.rf wf, hR.ie⟩
      show b1 (gI μ (some one) 10 1) (fun x4 => if x4 < i32 i then b1 (gR μ (some e) 3 0) (fun x59 => b1 (gI μ (some one) 10 1) (fun x63 => b1 (aR μ x59 6 x63) (fun x66 => b1 (gI μ (some other) 10 1) (fun x68 => b1 (aI μ x66 0 x68) (fun x71 => some (x71, μ)))))) else _) = _
      rw [vn1, b1_some, if_pos ((i32_lt (by omega) (by omega)).mpr (by omega)), gR_at r1.1 rfl, b1_some, b1_some, aR_at r2.1 (show p < 11 by omega) (by decide), (r3 p (by omega)).1, b1_some, vo1, b1_some, aI_at (r3 p (by omega)).2.1 (show q < 11 by omega) (by decide), b1_some, hf p q (Nat.le_refl _) (by omega)]
  | succ m ih =>
    intro i fuel μ F wf lo hR h1 h2 hf hi hfu
    cases fuel with
    | zero => omega
    | succ fuel =>
      obtain ⟨al, vn1, vn2, vn3, vn4, vn5⟩ := h1.wo.v
      have n0 : ¬ WR 0 := fun q => by unfold WR at q; omega
      obtain ⟨μ1, F1, q1, q2, q3, q4⟩ := Ec_row (w := w) (u := u) hp hq (show i ≤ p by omega) (fun v0 v1 v2 v3 μ => B_Ec_count_2 fuel v0 v1 v2 v3 μ) (q + 1) 0 fu μ F wf lo hR h1 h2 (fun i' j' h3 h4 => hf i' j' h3 (by omega)) (by omega) (by show q + 1 < 4096; omega)
      obtain ⟨μ', r1, r2, r3⟩ := ih (i + 1) fuel μ1 F1 q2.wf (q2.lo wf lo) q3 (h1.ext q2 n0) (h2.ext q2 n0) q4 (by omega) (by omega)
      refine ⟨μ', ?_, q2.tr r2, r3⟩
      show b1 (gI μ (some one) 10 1) (fun x4 => if x4 < i32 i then _ else B_Ec_count_13 (fun v0 v1 v2 v3 μ => B_Ec_count_2 fuel v0 v1 v2 v3 μ) fu (some e) (some one) (some other) (i32 i) 0 μ) = _
      rw [vn1, b1_some, if_neg (fun q => by have := (i32_lt (by omega) (by omega)).mp q; omega), show (0 : Int32) = i32 0 from rfl, q1, r1]
theorem Ec_count_eq {ro : Nat → Nat} {μ : Mem} {e one other p q : Nat} {w u : Nat → Int32} (wf : WF μ) (lo : LO μ) (hE : IE ro μ e) (h1 : WO0 ro μ one p w) (h2 : WO0 ro μ other q u) : ∃ μ', S_Ec_count (some e) (some one) (some other) μ = some (i32 (errE w u p q), μ') ∧ Ext WR ro μ ro μ' ∧ IE ro μ' e := by
  obtain ⟨lt, fr, rr, F, hR⟩ := hE.rw
  obtain ⟨al, vn1, vn2, vn3, vn4, vn5⟩ := h1.wo.v
  obtain ⟨bl, vo1, vo2, vo3, vo4, vo5⟩ := h2.wo.v
  exact Ec_tab vn5 vo5 (p + 1) 0 fu μ F wf lo hR h1 h2 (fun i' j' _ h => absurd h (Nat.not_lt_zero i')) (by omega) (by show p + 1 < 4096; omega)
