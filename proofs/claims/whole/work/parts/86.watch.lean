/-! watch -/
theorem IR.shift {ro : Nat → Nat} {μ : Mem} {ρ ρ' : RS} {s s' a : Nat} (h : IR ro μ ρ s a) (e30 : ra ρ' 30 s' = ra ρ 30 s) (e : ∀ k, k < 8 → ra ρ' 31 (8 * s' + k) = ra ρ 31 (8 * s + k) ∧ ra ρ' 32 (8 * s' + k) = ra ρ 32 (8 * s + k)) : IR ro μ ρ' s' a := by
  obtain ⟨n, h1, h2, h3, h4⟩ := h
  refine ⟨n, by rw [e30]; exact h1, h2, h3.fn (fun k hk => ⟨(e k (by omega)).1.symm, (e k (by omega)).2.symm⟩), fun k hk => ?_⟩
  rw [(e k (by omega)).1, (e k (by omega)).2]
  exact h4 k hk
theorem i32_5 (s k : Nat) : (5 : Int32) * i32 s + i32 k = i32 (5 * s + k) := by
  rw [show (5 : Int32) = i32 5 from rfl, i32_mul, i32_add]
theorem R_w144 {k t : Nat} (hk : k < 5) (ht : 5 ≤ t) (ht2 : t < 25) {v2 v3 : Int32} (k52 : Int32 → Int32 → Int32 → RS → Option (Unit × RS)) (m : Nat) : ∀ (i fuel : Nat) (ρ : RS), i + m = 10 → m < fuel → ∃ f, RB_M_watch_144 k52 fuel v2 v3 (i32 k) (i32 t) (i32 i) ρ = k52 v2 v3 (i32 (k + 1)) (rset ρ 29 f) ∧ (∀ j, i ≤ j → j < 10 → f (10 * t + j) = ra ρ 29 (10 * k + j)) ∧ ∀ q, q < 10 * t + i ∨ 10 * t + 10 ≤ q → f q = ra ρ 29 q := by
  induction m with
  | zero =>
    intro i fuel ρ hi hf
    cases fuel with
    | zero => omega
    | succ fuel =>
      refine ⟨ra ρ 29, ?_, fun j h1 h2 => by omega, fun q _ => rfl⟩
      show (if 10 ≤ i32 i then k52 v2 v3 (i32 k + 1) ρ else _) = _
      have hid : rset ρ 29 (ra ρ 29) = ρ := by
        show (ri ρ, rl ρ, va_up (ra ρ) 29 (ra ρ 29), rL ρ) = ρ
        have : va_up (ra ρ) 29 (ra ρ 29) = ra ρ := by
          funext q
          unfold va_up
          grind
        rw [this]
      rw [if_pos (show (10 : Int32) ≤ i32 i from (i32_le (a := 10) (by decide) (by omega)).mpr (by omega)), i32_succ, hid]
  | succ m ih =>
    intro i fuel ρ hi hf
    cases fuel with
    | zero => omega
    | succ fuel =>
      obtain ⟨f, q1, q2, q3⟩ := ih (i + 1) fuel (rset ρ 29 (upd (ra ρ 29) (10 * t + i) (ra ρ 29 (10 * k + i)))) (by omega) (by omega)
      have h29 : ra (rset ρ 29 (upd (ra ρ 29) (10 * t + i) (ra ρ 29 (10 * k + i)))) 29 = upd (ra ρ 29) (10 * t + i) (ra ρ 29 (10 * k + i)) := rfl
      rw [h29] at q2 q3
      refine ⟨f, ?_, fun j h1 h2 => ?_, fun q h1 => ?_⟩
      · show (if 10 ≤ i32 i then _ else b1 (rgI ρ 29 250 ((10 * i32 k) + i32 i)) (fun x175 => b1 (rsI ρ 29 250 ((10 * i32 t) + i32 i) x175) (fun ρ176 => RB_M_watch_144 k52 fuel v2 v3 (i32 k) (i32 t) (i32 i + 1) ρ176))) = _
        rw [if_neg (show ¬ (10 : Int32) ≤ i32 i from fun q => by have := (i32_le (a := 10) (by decide) (by omega)).mp q; omega), i32_10, rgI_at (by omega) (by decide), b1_some, i32_10, rsI_at (by omega) (by decide), b1_some, i32_succ, q1, rs2]
      · by_cases hjk : j = i
        · subst hjk
          exact (q3 (10 * t + j) (.inl (by omega))).trans (upd_at _ _ _)
        · exact (q2 j (by omega) h2).trans (upd_ne _ _ (by omega))
      · exact (q3 q (by omega)).trans (upd_ne _ _ (by omega))
theorem R_w204 {s : Nat} (hs : 1 ≤ s) (hs2 : s ≤ 4) {day : Int32} (m : Nat) : ∀ (k fuel : Nat) (ρ : RS), k + m = 8 → m < fuel → ∃ f g, RB_M_watch_204 fuel day (i32 s) (i32 k) ρ = some ((), rset (rset (rset (rset (rset ρ 31 f) 32 g) 33 (upd (ra ρ 33) s day)) 34 (upd (ra ρ 34) s 1)) 35 (upd (ra ρ 35) s 0)) ∧ (∀ j, k ≤ j → j < 8 → f (8 * s + j) = ra ρ 31 j ∧ g (8 * s + j) = ra ρ 32 j) ∧ ∀ q, q < 8 * s + k ∨ 8 * s + 8 ≤ q → f q = ra ρ 31 q ∧ g q = ra ρ 32 q := by
  induction m with
  | zero =>
    intro k fuel ρ hk hf
    cases fuel with
    | zero => omega
    | succ fuel =>
      refine ⟨ra ρ 31, ra ρ 32, ?_, fun j h1 h2 => by omega, fun q _ => ⟨rfl, rfl⟩⟩
      show (if 8 ≤ i32 k then b1 (rsI ρ 33 5 (i32 s) day) (fun ρ261 => b1 (rsI ρ261 34 5 (i32 s) (vp_nar .boolean 1)) (fun ρ268 => b1 (rsI ρ268 35 5 (i32 s) 0) (fun ρ275 => some ((), ρ275)))) else _) = _
      have hid : rset (rset ρ 31 (ra ρ 31)) 32 (ra ρ 32) = ρ := by
        show (ri ρ, rl ρ, va_up (va_up (ra ρ) 31 (ra ρ 31)) 32 (ra ρ 32), rL ρ) = ρ
        have : va_up (va_up (ra ρ) 31 (ra ρ 31)) 32 (ra ρ 32) = ra ρ := by
          funext q
          unfold va_up
          grind
        rw [this]
      rw [if_pos (show (8 : Int32) ≤ i32 k from (i32_le (a := 8) (by decide) (by omega)).mpr (by omega)), rsI_at (by omega) (by decide), b1_some, rsI_at (by omega) (by decide), b1_some, rsI_at (by omega) (by decide), b1_some, hid, show vp_nar .boolean 1 = 1 from by decide]
      rfl
  | succ m ih =>
    intro k fuel ρ hk hf
    cases fuel with
    | zero => omega
    | succ fuel =>
      obtain ⟨f, g, q1, q2, q3⟩ := ih (k + 1) fuel (rset (rset ρ 31 (upd (ra ρ 31) (8 * s + k) (ra ρ 31 k))) 32 (upd (ra ρ 32) (8 * s + k) (ra ρ 32 k))) (by omega) (by omega)
      have h31 : ra (rset (rset ρ 31 (upd (ra ρ 31) (8 * s + k) (ra ρ 31 k))) 32 (upd (ra ρ 32) (8 * s + k) (ra ρ 32 k))) 31 = upd (ra ρ 31) (8 * s + k) (ra ρ 31 k) := rfl
      have h32 : ra (rset (rset ρ 31 (upd (ra ρ 31) (8 * s + k) (ra ρ 31 k))) 32 (upd (ra ρ 32) (8 * s + k) (ra ρ 32 k))) 32 = upd (ra ρ 32) (8 * s + k) (ra ρ 32 k) := rfl
      rw [h31, h32] at q2 q3
      refine ⟨f, g, ?_, fun j h1 h2 => ?_, fun q h1 => ?_⟩
      · show (if 8 ≤ i32 k then _ else b1 (rgI ρ 31 40 (i32 k)) (fun x228 => b1 (rsI ρ 31 40 ((8 * i32 s) + i32 k) x228) (fun ρ229 => b1 (rgI ρ229 32 40 (i32 k)) (fun x247 => b1 (rsI ρ229 32 40 ((8 * i32 s) + i32 k) x247) (fun ρ248 => RB_M_watch_204 fuel day (i32 s) (i32 k + 1) ρ248))))) = _
        rw [if_neg (show ¬ (8 : Int32) ≤ i32 k from fun q => by have := (i32_le (a := 8) (by decide) (by omega)).mp q; omega), rgI_at (by omega) (by decide), b1_some, i32_8, rsI_at (by omega) (by decide), b1_some, rgI_at (by omega) (by decide), b1_some, rsI_at (by omega) (by decide), b1_some, i32_succ]
        refine Eq.trans q1 ?_
        rw [rs4 ρ (by decide)]
        rfl
      · by_cases hjk : j = k
        · subst hjk
          have := q3 (8 * s + j) (.inl (by omega))
          exact ⟨this.1.trans (upd_at _ _ _), this.2.trans (upd_at _ _ _)⟩
        · have := q2 j (by omega) h2
          exact ⟨this.1.trans (upd_ne _ _ (by omega)), this.2.trans (upd_ne _ _ (by omega))⟩
      · have := q3 q (by omega)
        exact ⟨this.1.trans (upd_ne _ _ (by omega)), this.2.trans (upd_ne _ _ (by omega))⟩
def WRel (s k : Nat) (ρ0 ρ : RS) : Prop := (∀ j, ri ρ j = ri ρ0 j) ∧ (∀ j, j < 24 ∨ 29 < j → ra ρ j = ra ρ0 j) ∧ (∀ x, 24 ≤ x → x ≤ 28 → (∀ q, q < 5 * s ∨ 5 * s + 5 ≤ q → ra ρ x q = ra ρ0 x q) ∧ ∀ j, j < k → ra ρ x (5 * s + j) = ra ρ0 x j) ∧ (∀ q, q < 50 * s ∨ 50 * s + 50 ≤ q → ra ρ 29 q = ra ρ0 29 q) ∧ ∀ j i, j < k → i < 10 → ra ρ 29 (10 * (5 * s + j) + i) = ra ρ0 29 (10 * j + i)
theorem R_w52 {ρ0 : RS} {s n : Nat} (hs : 1 ≤ s) (hs2 : s ≤ 4) (hn : n ≤ 5) (h23 : ra ρ0 23 0 = i32 n) {day : Int32} (m : Nat) : ∀ (k fuel : Nat) (ρ : RS), WRel s k ρ0 ρ → k + m = n → m < fuel → ∃ ρ' f g, RB_M_watch_52 fuel day (i32 s) (i32 k) ρ = some ((), rset (rset (rset (rset (rset (rset ρ' 30 (upd (ra ρ0 30) s (ra ρ0 30 0))) 31 f) 32 g) 33 (upd (ra ρ0 33) s day)) 34 (upd (ra ρ0 34) s 1)) 35 (upd (ra ρ0 35) s 0)) ∧ WRel s n ρ0 ρ' ∧ (∀ j, j < 8 → f (8 * s + j) = ra ρ0 31 j ∧ g (8 * s + j) = ra ρ0 32 j) ∧ ∀ q, q < 8 * s ∨ 8 * s + 8 ≤ q → f q = ra ρ0 31 q ∧ g q = ra ρ0 32 q := by
  induction m with
  | zero =>
    intro k fuel ρ hR hk hf
    cases fuel with
    | zero => omega
    | succ fuel =>
      have e : ∀ j, j < 24 ∨ 29 < j → ra ρ j = ra ρ0 j := hR.2.1
      obtain ⟨f, g, q1, q2, q3⟩ := R_w204 (day := day) hs hs2 8 0 fu (rset ρ 30 (upd (ra ρ 30) s (ra ρ 30 0))) (by omega) (by decide)
      refine ⟨ρ, f, g, ?_, ?_, fun j hj => ?_, fun q hq => ?_⟩
      · show b1 (rgI ρ 23 5 0) (fun x59 => if x59 ≤ i32 k then b1 (rgI ρ 30 5 0) (fun x199 => b1 (rsI ρ 30 5 (i32 s) x199) (fun ρ200 => RB_M_watch_204 fu day (i32 s) 0 ρ200)) else _) = _
        rw [show rgI ρ 23 5 0 = some (ra ρ 23 0) from rgI_at (j := 0) (by decide) (by decide), e 23 (by decide), h23, b1_some, if_pos ((i32_le (by omega) (by omega)).mpr (by omega)), show rgI ρ 30 5 0 = some (ra ρ 30 0) from rgI_at (j := 0) (by decide) (by decide), b1_some, rsI_at (by omega) (by decide), b1_some, show (0 : Int32) = i32 0 from rfl, q1]
        rw [show ra (rset ρ 30 (upd (ra ρ 30) s (ra ρ 30 0))) 33 = ra ρ 33 from rfl, show ra (rset ρ 30 (upd (ra ρ 30) s (ra ρ 30 0))) 34 = ra ρ 34 from rfl, show ra (rset ρ 30 (upd (ra ρ 30) s (ra ρ 30 0))) 35 = ra ρ 35 from rfl, e 30 (by decide), e 33 (by decide), e 34 (by decide), e 35 (by decide)]
        rfl
      · rw [show n = k by omega]
        exact hR
      · have := q2 j (by omega) hj
        rw [show ra (rset ρ 30 (upd (ra ρ 30) s (ra ρ 30 0))) 31 = ra ρ 31 from rfl, show ra (rset ρ 30 (upd (ra ρ 30) s (ra ρ 30 0))) 32 = ra ρ 32 from rfl, e 31 (by decide), e 32 (by decide)] at this
        exact this
      · have := q3 q (by omega)
        rw [show ra (rset ρ 30 (upd (ra ρ 30) s (ra ρ 30 0))) 31 = ra ρ 31 from rfl, show ra (rset ρ 30 (upd (ra ρ 30) s (ra ρ 30 0))) 32 = ra ρ 32 from rfl, e 31 (by decide), e 32 (by decide)] at this
        exact this
  | succ m ih =>
    intro k fuel ρ hR hk hf
    cases fuel with
    | zero => omega
    | succ fuel =>
      have e : ∀ j, j < 24 ∨ 29 < j → ra ρ j = ra ρ0 j := hR.2.1
      obtain ⟨f, q1, q2, q3⟩ := R_w144 (k := k) (t := 5 * s + k) (v2 := day) (v3 := i32 s) (by omega) (by omega) (by omega) (fun v2 v3 v4 ρ => RB_M_watch_52 fuel v2 v3 v4 ρ) 10 0 fu (rset (rset (rset (rset (rset ρ 24 (upd (ra ρ 24) (5 * s + k) (ra ρ 24 k))) 25 (upd (ra ρ 25) (5 * s + k) (ra ρ 25 k))) 26 (upd (ra ρ 26) (5 * s + k) (ra ρ 26 k))) 27 (upd (ra ρ 27) (5 * s + k) (ra ρ 27 k))) 28 (upd (ra ρ 28) (5 * s + k) (ra ρ 28 k))) (by omega) (by decide)
      have h29 : ra (rset (rset (rset (rset (rset ρ 24 (upd (ra ρ 24) (5 * s + k) (ra ρ 24 k))) 25 (upd (ra ρ 25) (5 * s + k) (ra ρ 25 k))) 26 (upd (ra ρ 26) (5 * s + k) (ra ρ 26 k))) 27 (upd (ra ρ 27) (5 * s + k) (ra ρ 27 k))) 28 (upd (ra ρ 28) (5 * s + k) (ra ρ 28 k))) 29 = ra ρ 29 := rfl
      rw [h29] at q2 q3
      obtain ⟨r0, r1, r2, r3, r4⟩ := hR
      have hx : ∀ x, 24 ≤ x → x ≤ 28 → ra (rset (rset (rset (rset (rset (rset ρ 24 (upd (ra ρ 24) (5 * s + k) (ra ρ 24 k))) 25 (upd (ra ρ 25) (5 * s + k) (ra ρ 25 k))) 26 (upd (ra ρ 26) (5 * s + k) (ra ρ 26 k))) 27 (upd (ra ρ 27) (5 * s + k) (ra ρ 27 k))) 28 (upd (ra ρ 28) (5 * s + k) (ra ρ 28 k))) 29 f) x = upd (ra ρ x) (5 * s + k) (ra ρ x k) := by
        intro x h1 h2
        have : x = 24 ∨ x = 25 ∨ x = 26 ∨ x = 27 ∨ x = 28 := by omega
        rcases this with h | h | h | h | h <;> subst h <;> rfl
      have hR' : WRel s (k + 1) ρ0 (rset (rset (rset (rset (rset (rset ρ 24 (upd (ra ρ 24) (5 * s + k) (ra ρ 24 k))) 25 (upd (ra ρ 25) (5 * s + k) (ra ρ 25 k))) 26 (upd (ra ρ 26) (5 * s + k) (ra ρ 26 k))) 27 (upd (ra ρ 27) (5 * s + k) (ra ρ 27 k))) 28 (upd (ra ρ 28) (5 * s + k) (ra ρ 28 k))) 29 f) := by
        refine ⟨r0, fun j hj => ?_, fun x h1 h2 => ⟨fun q hq => ?_, fun j hj => ?_⟩, fun q hq => ?_, fun j i hj hi => ?_⟩
        · show va_up (va_up (va_up (va_up (va_up (va_up (ra ρ) 24 _) 25 _) 26 _) 27 _) 28 _) 29 f j = _
          rw [va_up_ne _ _ (by omega), va_up_ne _ _ (by omega), va_up_ne _ _ (by omega), va_up_ne _ _ (by omega), va_up_ne _ _ (by omega), va_up_ne _ _ (by omega)]
          exact e j hj
        · rw [hx x h1 h2, upd_ne _ _ (by omega)]
          exact (r2 x h1 h2).1 q hq
        · rw [hx x h1 h2]
          by_cases hjk : j = k
          · rw [hjk, upd_at]
            exact (r2 x h1 h2).1 k (by omega)
          · rw [upd_ne _ _ (by omega)]
            exact (r2 x h1 h2).2 j (by omega)
        · show f q = _
          rw [q3 q (by omega)]
          exact r3 q hq
        · show f (10 * (5 * s + j) + i) = _
          by_cases hjk : j = k
          · subst hjk
            rw [q2 i (by omega) hi]
            exact r3 _ (by omega)
          · rw [q3 _ (by omega)]
            exact r4 j i (by omega) hi
      obtain ⟨ρ', f', g', p1, p2⟩ := ih (k + 1) fuel _ hR' (by omega) (by omega)
      refine ⟨ρ', f', g', ?_, p2⟩
      show b1 (rgI ρ 23 5 0) (fun x59 => if x59 ≤ i32 k then _ else b0 ((5 * i32 s) + i32 k) (fun x69 => b1 (rgI ρ 24 25 (i32 k)) (fun x83 => b1 (rsI ρ 24 25 x69 x83) (fun ρ84 => b1 (rgI ρ84 25 25 (i32 k)) (fun x97 => b1 (rsI ρ84 25 25 x69 x97) (fun ρ98 => b1 (rgI ρ98 26 25 (i32 k)) (fun x111 => b1 (rsI ρ98 26 25 x69 x111) (fun ρ112 => b1 (rgI ρ112 27 25 (i32 k)) (fun x125 => b1 (rsI ρ112 27 25 x69 x125) (fun ρ126 => b1 (rgI ρ126 28 25 (i32 k)) (fun x139 => b1 (rsI ρ126 28 25 x69 x139) (fun ρ140 => RB_M_watch_144 (fun v2 v3 v4 ρ => RB_M_watch_52 fuel v2 v3 v4 ρ) fu day (i32 s) (i32 k) x69 0 ρ140)))))))))))) = _
      rw [show rgI ρ 23 5 0 = some (ra ρ 23 0) from rgI_at (j := 0) (by decide) (by decide), e 23 (by decide), h23, b1_some, if_neg (fun q => by have := (i32_le (by omega) (by omega)).mp q; omega), b0_eq, i32_5, rgI_at (by omega) (by decide), b1_some, rsI_at (by omega) (by decide), b1_some, rgI_at (by omega) (by decide), b1_some, rsI_at (by omega) (by decide), b1_some, rgI_at (by omega) (by decide), b1_some, rsI_at (by omega) (by decide), b1_some, rgI_at (by omega) (by decide), b1_some, rsI_at (by omega) (by decide), b1_some, rgI_at (by omega) (by decide), b1_some, rsI_at (by omega) (by decide), b1_some, show (0 : Int32) = i32 0 from rfl]
      exact Eq.trans q1 p1
