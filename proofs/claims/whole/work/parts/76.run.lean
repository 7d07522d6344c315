/-! the law runs to its end, if each call does as it must -/
theorem i32_bd {L m j : Nat} (hL : L ≤ 3072) (h : ¬ ((Int32.ofNat L) - 6) < i32 (6 * m)) (hm : m ≤ 512) (hj : j ≤ 5) : ¬ (i32 (6 * m) + i32 j < 0 ∨ L ≤ (i32 (6 * m) + i32 j).toNatClampNeg) ∧ 6 * m + 6 ≤ L := by
  rw [i32_nlt, Int32.le_iff_toInt_le, i32_int (by omega)] at h
  have hs : ((Int32.ofNat L) - 6).toInt = (L : Int) - 6 := by
    have h1 : (Int32.ofNat L).toInt = L := i32_int (by omega)
    have h2 : (6 : Int32).toInt = 6 := rfl
    rw [sub_int (by rw [h1, h2]; omega) (by rw [h1, h2]; omega), h1, h2]
  rw [hs] at h
  refine ⟨?_, by omega⟩
  rw [i32_add, i32_nat (by omega)]
  intro q
  rcases q with q | q
  · exact i32_nn (by omega) q
  · omega
set_option maxHeartbeats 8000000 in
set_option maxRecDepth 100000 in
theorem law_run {b c v : Nat} (H : AllCalls b c v) (xs : Nat → Int32) (L : Nat) (hL : L ≤ 3072) : ∀ n m ρ μ, n + m = 513 → 6 * m ≤ L → Invt b c v ρ μ → LB_23 xs L (some c) (some v) b n (i32 (6 * m)) ρ μ := by
  intro n
  induction n with
  | zero => intro m ρ μ h1 h2; omega
  | succ n ih =>
    intro m ρ μ h1 h2 hI
    unfold LB_23
    refine ⟨fun _ => rfl, fun hlt => ?_⟩
    have hb0 : ¬ (i32 (6 * m) < 0 ∨ L ≤ (i32 (6 * m)).toNatClampNeg) := by
      have := (i32_bd (j := 0) hL hlt (by omega) (by omega)).1
      rw [i32_add] at this
      exact this
    have hb1 : ¬ (i32 (6 * m) + 1 < 0 ∨ L ≤ (i32 (6 * m) + 1).toNatClampNeg) := (i32_bd (j := 1) hL hlt (by omega) (by omega)).1
    have hb2 : ¬ (i32 (6 * m) + 2 < 0 ∨ L ≤ (i32 (6 * m) + 2).toNatClampNeg) := (i32_bd (j := 2) hL hlt (by omega) (by omega)).1
    have hb3 : ¬ (i32 (6 * m) + 3 < 0 ∨ L ≤ (i32 (6 * m) + 3).toNatClampNeg) := (i32_bd (j := 3) hL hlt (by omega) (by omega)).1
    have hb4 : ¬ (i32 (6 * m) + 4 < 0 ∨ L ≤ (i32 (6 * m) + 4).toNatClampNeg) := (i32_bd (j := 4) hL hlt (by omega) (by omega)).1
    have hb5 : ¬ (i32 (6 * m) + 5 < 0 ∨ L ≤ (i32 (6 * m) + 5).toNatClampNeg) := (i32_bd (j := 5) hL hlt (by omega) (by omega)).1
    have hL6 := (i32_bd (j := 0) hL hlt (by omega) (by omega)).2
    have hK : ∀ ρ' μ', Invt b c v ρ' μ' → LB_1268 xs L (some c) (some v) b (LB_23 xs L (some c) (some v) b n) (i32 (6 * m)) ρ' μ' := by
      intro ρ' μ' h'
      show LB_23 xs L (some c) (some v) b n (i32 (6 * m) + 6) ρ' μ'
      have := ih (m + 1) ρ' μ' (by omega) (by omega) h'
      rw [show i32 (6 * m) + 6 = i32 (6 * (m + 1)) from i32_add (6 * m) 6]
      exact this
    obtain ⟨c0, c1, c2, c3, c4, c5, c6, c7, c8, c9, c10, c11, c12, c13, c14, c15, c16, c17, c18, c19⟩ := H ρ (ov b ρ μ) (hI.over ρ) (ov_ov b ρ ρ μ)
    have hrc := (hI.over ρ).rcp
    refine ⟨hb0, ?_⟩
    refine ⟨fun _ => ⟨hb1, wc_I hI (c0 _) (fun _ => rfl) (fun s0 μ' x ρ' q1 q2 q3 q4 => ?_)⟩, fun _ => ?_⟩
    · unfold LB_147
      exact ⟨hb1, x, ρ', q1, q3.mw, ri ρ' 0, rfl, fun _ => ⟨fun h0 => ⟨_, q4 h0, fun _ => hK ρ' μ' q3, fun hn => absurd (lg_self _) hn⟩, fun _ => hK ρ' μ' q3⟩, fun hn => absurd q2 hn⟩
    refine ⟨fun _ => ⟨hb1, hb2, wc_I hI (c1 _ _) (fun _ => rfl) (fun s0 μ' x ρ' q1 q2 q3 q4 => ?_)⟩, fun _ => ?_⟩
    · unfold LB_209
      exact ⟨hb1, hb2, x, ρ', q1, q3.mw, ri ρ' 0, rfl, fun _ => ⟨fun h0 => ⟨_, q4 h0, fun _ => hK ρ' μ' q3, fun hn => absurd (lg_self _) hn⟩, fun _ => hK ρ' μ' q3⟩, fun hn => absurd q2 hn⟩
    refine ⟨fun _ => ⟨hb1, hb2, wc_U hI (c2 _ _) (fun _ => rfl) (fun s0 μ' ρ' q1 q2 q3 => ?_)⟩, fun _ => ?_⟩
    · unfold LB_276
      exact ⟨hb1, hb2, (), ρ', q1, q3.mw, ri ρ' 0, rfl, fun _ => hK ρ' μ' q3, fun hn => absurd q2 hn⟩
    refine ⟨fun _ => ?_, fun _ => ?_⟩
    · obtain ⟨x, μ', ρ', q1, q2, q3, q4⟩ := c3
      exact ⟨x, μ', q1, hrc, q2, x, ρ', q3, q4.mw, hK ρ' μ' q4⟩
    refine ⟨fun _ => ?_, fun _ => ?_⟩
    · obtain ⟨x, μ', ρ', q1, q2, q3, q4⟩ := c4 (xs ((i32 (6 * m) + 1 : Int32)).toNatClampNeg)
      exact ⟨hb1, x, μ', q1, hrc, q2, hb1, x, ρ', q3, q4.mw, fun _ => hK ρ' μ' q4, fun hn => absurd rfl hn⟩
    refine ⟨fun _ => ⟨hb1, hb2, hb3, wc_U hI (c5 _ _ _) (fun _ => rfl) (fun s0 μ' ρ' q1 q2 q3 => ?_)⟩, fun _ => ?_⟩
    · unfold LB_366
      exact ⟨hb1, hb2, hb3, (), ρ', q1, q3.mw, ri ρ' 0, rfl, fun _ => hK ρ' μ' q3, fun hn => absurd q2 hn⟩
    refine ⟨fun _ => ⟨hb1, hb2, hb3, hb4, wc_U hI (c6 _ _ _ _) (fun _ => rfl) (fun s0 μ' ρ' q1 q2 q3 => ?_)⟩, fun _ => ?_⟩
    · unfold LB_432
      exact ⟨hb1, hb2, hb3, hb4, (), ρ', q1, q3.mw, ri ρ' 0, rfl, fun _ => hK ρ' μ' q3, fun hn => absurd q2 hn⟩
    refine ⟨fun _ => ⟨hb1, hb2, wc_U hI (c7 _ _) (fun _ => rfl) (fun s0 μ' ρ' q1 q2 q3 => ?_)⟩, fun _ => ?_⟩
    · unfold LB_492
      exact ⟨hb1, hb2, (), ρ', q1, q3.mw, ri ρ' 0, rfl, fun _ => hK ρ' μ' q3, fun hn => absurd q2 hn⟩
    refine ⟨fun _ => ⟨hb1, hb2, hb3, hb4, wc_I hI (c8 _ _ _ _) (fun _ => rfl) (fun s0 μ' x ρ' q1 q2 q3 q4 => ?_)⟩, fun _ => ?_⟩
    · unfold LB_553
      exact ⟨hb1, hb2, hb3, hb4, x, ρ', q1, q3.mw, ri ρ' 0, rfl, fun _ => ⟨fun h0 => ⟨_, q4 h0, fun _ => hK ρ' μ' q3, fun hn => absurd (lg_self _) hn⟩, fun _ => hK ρ' μ' q3⟩, fun hn => absurd q2 hn⟩
    refine ⟨fun _ => ?_, fun _ => ?_⟩
    · obtain ⟨x, μ', ρ', q1, q2, q3, q4⟩ := c9
      exact ⟨x, μ', q1, hrc, q2, x, ρ', q3, q4.mw, hK ρ' μ' q4⟩
    refine ⟨fun _ => ⟨hb1, hb2, wc_I hI (c10 _ _) (fun _ => rfl) (fun s0 μ' x ρ' q1 q2 q3 q4 => ?_)⟩, fun _ => ?_⟩
    · unfold LB_644
      exact ⟨hb1, hb2, x, ρ', q1, q3.mw, ri ρ' 0, rfl, fun _ => ⟨fun h0 => ⟨_, q4 h0, fun _ => hK ρ' μ' q3, fun hn => absurd (lg_self _) hn⟩, fun _ => hK ρ' μ' q3⟩, fun hn => absurd q2 hn⟩
    refine ⟨fun _ => ⟨hb1, hb2, hb3, hb4, hb5, wc_I hI (c11 _ _ _ _ _) (fun _ => rfl) (fun s0 μ' x ρ' q1 q2 q3 q4 => ?_)⟩, fun _ => ?_⟩
    · unfold LB_730
      exact ⟨hb1, hb2, hb3, hb4, hb5, x, ρ', q1, q3.mw, ri ρ' 0, rfl, fun _ => ⟨fun h0 => ⟨_, q4 h0, fun _ => hK ρ' μ' q3, fun hn => absurd (lg_self _) hn⟩, fun _ => hK ρ' μ' q3⟩, fun hn => absurd q2 hn⟩
    refine ⟨fun _ => ⟨hb1, wc_I hI (c12 _) (fun _ => rfl) (fun s0 μ' x ρ' q1 q2 q3 q4 => ?_)⟩, fun _ => ?_⟩
    · unfold LB_810
      exact ⟨hb1, x, ρ', q1, q3.mw, ri ρ' 0, rfl, fun _ => ⟨fun h0 => ⟨_, q4 h0, fun _ => hK ρ' μ' q3, fun hn => absurd (lg_self _) hn⟩, fun _ => hK ρ' μ' q3⟩, fun hn => absurd q2 hn⟩
    refine ⟨fun _ => ⟨hb1, hb2, hb3, wc_I hI (c13 _ _ _) (fun _ => rfl) (fun s0 μ' x ρ' q1 q2 q3 q4 => ?_)⟩, fun _ => ?_⟩
    · unfold LB_878
      exact ⟨hb1, hb2, hb3, x, ρ', q1, q3.mw, ri ρ' 0, rfl, fun _ => ⟨fun h0 => ⟨_, q4 h0, fun _ => hK ρ' μ' q3, fun hn => absurd (lg_self _) hn⟩, fun _ => hK ρ' μ' q3⟩, fun hn => absurd q2 hn⟩
    refine ⟨fun _ => ⟨hb1, hb2, hb3, hb4, wc_I hI (c14 _ _ _ _) (fun _ => rfl) (fun s0 μ' x ρ' q1 q2 q3 q4 => ?_)⟩, fun _ => ?_⟩
    · unfold LB_964
      exact ⟨hb1, hb2, hb3, hb4, x, ρ', q1, q3.mw, ri ρ' 0, rfl, fun _ => ⟨fun h0 => ⟨_, q4 h0, fun _ => hK ρ' μ' q3, fun hn => absurd (lg_self _) hn⟩, fun _ => hK ρ' μ' q3⟩, fun hn => absurd q2 hn⟩
    refine ⟨fun _ => ?_, fun _ => ?_⟩
    · obtain ⟨x, μ', ρ', q1, q2, q3, q4⟩ := c15
      exact ⟨x, μ', q1, hrc, q2, x, ρ', q3, q4.mw, fun _ => hK ρ' μ' q4, fun hn => absurd rfl hn⟩
    refine ⟨fun _ => ⟨hb1, hb2, wc_I hI (c16 _ _) (fun _ => rfl) (fun s0 μ' x ρ' q1 q2 q3 q4 => ?_)⟩, fun _ => ?_⟩
    · unfold LB_1057
      exact ⟨hb1, hb2, x, ρ', q1, q3.mw, ri ρ' 0, rfl, fun _ => ⟨fun h0 => ⟨_, q4 h0, fun _ => hK ρ' μ' q3, fun hn => absurd (lg_self _) hn⟩, fun _ => hK ρ' μ' q3⟩, fun hn => absurd q2 hn⟩
    refine ⟨fun _ => ⟨hb1, hb2, wc_U hI (c17 _ _) (fun _ => rfl) (fun s0 μ' ρ' q1 q2 q3 => ?_)⟩, fun _ => ?_⟩
    · unfold LB_1124
      exact ⟨hb1, hb2, (), ρ', q1, q3.mw, ri ρ' 0, rfl, fun _ => hK ρ' μ' q3, fun hn => absurd q2 hn⟩
    refine ⟨fun _ => ⟨hb1, wc_I hI (c18 _) (fun _ => rfl) (fun s0 μ' x ρ' q1 q2 q3 q4 => ?_)⟩, fun _ => ?_⟩
    · unfold LB_1167
      exact ⟨hb1, x, ρ', q1, q3.mw, ri ρ' 0, rfl, fun _ => ⟨fun h0 => ⟨_, q4 h0, fun _ => hK ρ' μ' q3, fun hn => absurd (lg_self _) hn⟩, fun _ => hK ρ' μ' q3⟩, fun hn => absurd q2 hn⟩
    refine ⟨fun _ => ⟨hb1, wc_I hI (c19 _) (fun _ => rfl) (fun s0 μ' x ρ' q1 q2 q3 q4 => ?_)⟩, fun _ => ?_⟩
    · unfold LB_1223
      exact ⟨hb1, x, ρ', q1, q3.mw, ri ρ' 0, rfl, fun _ => ⟨fun h0 => ⟨_, q4 h0, fun _ => hK ρ' μ' q3, fun hn => absurd (lg_self _) hn⟩, fun _ => hK ρ' μ' q3⟩, fun hn => absurd q2 hn⟩
    exact hK ρ μ hI
