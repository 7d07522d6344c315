/-! route -/
theorem up4 {α : Type} (h : Nat → α) {i j : Nat} (hij : i ≠ j) (a b f g : α) : va_up (va_up (va_up (va_up h i a) j b) i f) j g = va_up (va_up h i f) j g := by
  funext k
  unfold va_up
  grind
theorem up2 {α : Type} (h : Nat → α) (i : Nat) (a f : α) : va_up (va_up h i a) i f = va_up h i f := by
  funext k
  unfold va_up
  grind
theorem rs4 (ρ : RS) {i j : Nat} (hij : i ≠ j) (a b f g : Nat → Int32) : rset (rset (rset (rset ρ i a) j b) i f) j g = rset (rset ρ i f) j g := by
  show (ri ρ, rl ρ, va_up (va_up (va_up (va_up (ra ρ) i a) j b) i f) j g, rL ρ) = (ri ρ, rl ρ, va_up (va_up (ra ρ) i f) j g, rL ρ)
  rw [up4 _ hij]
theorem rs2 (ρ : RS) (i : Nat) (a f : Nat → Int32) : rset (rset ρ i a) i f = rset ρ i f := by
  show (ri ρ, rl ρ, va_up (va_up (ra ρ) i a) i f, rL ρ) = (ri ρ, rl ρ, va_up (ra ρ) i f, rL ρ)
  rw [up2]
theorem R_route {n : Nat} (h8 : n ≤ 8) (m : Nat) : ∀ (k fuel : Nat) (ρ : RS), ri ρ 18 = i32 n → k + m = n → m < fuel → ∃ f g, RB_M_route_29 fuel (i32 k) ρ = some ((), rpI (rset (rset ρ 31 f) 32 g) 18 0) ∧ (∀ j, k ≤ j → j < n → f j = ra ρ 19 j ∧ g j = ra ρ 20 j) ∧ (∀ j, j < k ∨ n ≤ j → f j = ra ρ 31 j ∧ g j = ra ρ 32 j) := by
  induction m with
  | zero =>
    intro k fuel ρ hn hk hf
    cases fuel with
    | zero => omega
    | succ fuel =>
      refine ⟨ra ρ 31, ra ρ 32, ?_, fun j h1 h2 => by omega, fun j _ => ⟨rfl, rfl⟩⟩
      show (if ri ρ 18 ≤ i32 k then b0 (rpI ρ 18 0) (fun ρ69 => some ((), ρ69)) else _) = _
      rw [hn, if_pos ((i32_le (by omega) (by omega)).mpr (by omega)), b0_eq]
      congr 2
      show rpI ρ 18 0 = rpI (ri ρ, rl ρ, va_up (va_up (ra ρ) 31 (ra ρ 31)) 32 (ra ρ 32), rL ρ) 18 0
      have : va_up (va_up (ra ρ) 31 (ra ρ 31)) 32 (ra ρ 32) = ra ρ := by
        funext q
        unfold va_up
        grind
      rw [this]
  | succ m ih =>
    intro k fuel ρ hn hk hf
    cases fuel with
    | zero => omega
    | succ fuel =>
      obtain ⟨f, g, q1, q2, q3⟩ := ih (k + 1) fuel (rset (rset ρ 31 (upd (ra ρ 31) k (ra ρ 19 k))) 32 (upd (ra ρ 32) k (ra ρ 20 k))) hn (by omega) (by omega)
      refine ⟨f, g, ?_, fun j h1 h2 => ?_, fun j h1 => ?_⟩
      · show (if ri ρ 18 ≤ i32 k then b0 (rpI ρ 18 0) (fun ρ69 => some ((), ρ69)) else b1 (rgI ρ 19 8 (i32 k)) (fun x47 => b1 (rsI ρ 31 40 (i32 k) x47) (fun ρ48 => b1 (rgI ρ48 20 8 (i32 k)) (fun x59 => b1 (rsI ρ48 32 40 (i32 k) x59) (fun ρ60 => RB_M_route_29 fuel (i32 k + 1) ρ60))))) = _
        rw [hn, if_neg (fun q => by have := (i32_le (by omega) (by omega)).mp q; omega), rgI_at (by omega) (by decide), b1_some, rsI_at (by omega) (by decide), b1_some, rgI_at (by omega) (by decide), b1_some, rsI_at (by omega) (by decide), b1_some, i32_succ]
        refine Eq.trans q1 ?_
        rw [rs4 ρ (by decide)]
      · by_cases hjk : j = k
        · subst hjk
          have := q3 j (.inl (by omega))
          refine ⟨this.1.trans (upd_at _ _ _), this.2.trans (upd_at _ _ _)⟩
        · exact q2 j (by omega) h2
      · have := q3 j (by omega)
        exact ⟨this.1.trans (upd_ne _ _ (by omega)), this.2.trans (upd_ne _ _ (by omega))⟩
theorem call_route {b c v : Nat} {ρ : RS} {μ : Mem} (hI : Invt b c v ρ μ) (hov : ov b ρ μ = μ) : CallN (S_P_route (some c)) R_M_route b c v ρ μ := by
  obtain ⟨ro, N, pl, lPl, aX, aY, nc, rt, aT, nt, lC, aW, hH, eE, rR, an, h1, h2, h3, h4, h5, h6, h7, h8, h9, h10, h11, h12, h13, h14, h15, h16⟩ := hI
  have h4' := h4
  obtain ⟨g1, g2, fx, fy, g3, g4, g5⟩ := h4
  have hDx : aX ≠ mD μ := by have := g3.low h16; have := h15.1.1; omega
  have hDy : aY ≠ mD μ := by have := g4.low h16; have := h15.1.1; omega
  have main : ∀ n, n ≤ nc → (n = if 2 ≤ nc then nc else 0) → CallN (S_P_route (some c)) R_M_route b c v ρ μ := by
    intro n hn hn2
    obtain ⟨μ', s1, fr, hco⟩ := Co_init_eq (n := n) h15 g3.1 g4.1 hDx hDy (by omega) (by omega) (by decide) (by decide)
    have e1 : Ext (fun q => q = 2) ro μ (roN ro (mN μ) (fun _ => 0)) μ' := fr.ext h15 ro _
    have co := hco ro
    have p1 := Is.old h1 h15 0 (.inr (2, [.int 0, .null, .null]))
    have i1 : Is (roN ro (mN μ) (fun _ => 0)) μ' c 2 _ := ⟨(fr.2.2.2.2 c (h1.lt h15)).trans h1.1, by show (if c < mN μ then ro c else 0) = 2; rw [if_pos (h1.lt h15)]; exact h1.2⟩
    generalize roN ro (mN μ) (fun _ => 0) = ro1 at *
    have w1 := e1.wf
    have lo1 := e1.lo h15 h16
    have s2 : pV μ' (some c) 11 4 (vR (some (mN μ))) = some (m_set μ' c (PFc lPl aX aY nc (mN μ) aT nt lC aW hH eE rR an)) := pV_at _ i1.1 (i1.low lo1) (show 4 < 13 by decide)
    have i2 := i1.set ro1 (PFc lPl aX aY nc (mN μ) aT nt lC aW hH eE rR an)
    have s3 : pV (m_set μ' c (PFc lPl aX aY nc (mN μ) aT nt lC aW hH eE rR an)) (some c) 11 3 (vI 0) = some (m_set (m_set μ' c (PFc lPl aX aY nc (mN μ) aT nt lC aW hH eE rR an)) c (PFc lPl aX aY 0 (mN μ) aT nt lC aW hH eE rR an)) := pV_at _ i2.1 (i1.low lo1) (show 3 < 13 by decide)
    rw [set_set] at s3
    have e2 : Ext (fun q => q = 2) ro1 μ' ro1 (m_set μ' c (PFc lPl aX aY 0 (mN μ) aT nt lC aW hH eE rR an)) := Ext.set (W := fun q => q = 2) w1 i1 rfl _
    have i3 := i1.set ro1 (PFc lPl aX aY 0 (mN μ) aT nt lC aW hH eE rR an)
    have e := e1.tr e2
    have hS : S_P_route (some c) μ = some ((), m_set μ' c (PFc lPl aX aY 0 (mN μ) aT nt lC aW hH eE rR an)) := by
      unfold S_P_route
      show b1 (gR (m_push μ (.inr (2, [.int 0, .null, .null]))) (some c) 11 1) _ = _
      rw [gR_at p1.1 rfl, b1_some, gR_at p1.1 rfl, b1_some, gI_at p1.1 rfl, b1_some]
      have hB : B_P_route_29 (some c) (some c) (some (mN μ)) (some (mN μ)) (some aX) (some aY) (i32 n) (m_push μ (.inr (2, [.int 0, .null, .null]))) = some ((), m_set μ' c (PFc lPl aX aY 0 (mN μ) aT nt lC aW hH eE rR an)) := by
        unfold B_P_route_29
        rw [rc_at (push_at _ _), b1_some, s1, b2_some, s2, b1_some, s3, b1_some]
      by_cases h2c : 2 ≤ nc
      · rw [if_pos h2c] at hn2
        rw [if_pos (show (2 : Int32) ≤ i32 nc from (i32_le (a := 2) (by decide) (by omega)).mpr h2c), b1_some, ← hn2]
        exact hB
      · rw [if_neg h2c] at hn2
        rw [if_neg (show ¬ (2 : Int32) ≤ i32 nc from fun q => h2c ((i32_le (a := 2) (by decide) (by omega)).mp q))]
        rw [hn2] at hB
        exact hB
    obtain ⟨f, g, r1, r2, r3⟩ := R_route g2 nc 0 fu (rset (rpI ρ 0 0) 30 (upd (ra ρ 30) 0 (i32 n))) g1 (by omega) (by show nc < 4096; omega)
    refine ⟨(), _, rpI (rset (rset (rset (rpI ρ 0 0) 30 (upd (ra ρ 30) 0 (i32 n))) 31 f) 32 g) 18 0, hS, ov_keep hov h14 e (by decide), ?_, ⟨ro1, N, pl, lPl, aX, aY, 0, mN μ, aT, nt, lC, aW, hH, eE, rR, an, i3, h2.ext e (fun q hq => by omega), h3, ⟨rfl, by decide, fx, fy, g3.ext e (by decide), g4.ext e (by decide), fun k hk => absurd hk (Nat.not_lt_zero k)⟩, ⟨n, rfl, by omega, ?_, fun k hk => ?_⟩, h6.ext e (by decide), h7.ext e (by decide) (by decide) (by decide), ?_, h9.ext e (by decide) (by decide) (by decide), h10.ext e (by decide) (fun i _ => by omega), h11.ext e (by decide), h12.ext e (by decide), h13.ext e (by decide), h14.ext e, e.wf, e.lo h15 h16⟩⟩
    · unfold R_M_route
      rw [b0_eq, show ri (rpI ρ 0 0) 18 = i32 nc from g1]
      have hB : RB_M_route_26 0 (i32 n) (rpI ρ 0 0) = some ((), rpI (rset (rset (rset (rpI ρ 0 0) 30 (upd (ra ρ 30) 0 (i32 n))) 31 f) 32 g) 18 0) := by
        unfold RB_M_route_26
        rw [show rsI (rpI ρ 0 0) 30 5 0 (i32 n) = rsI (rpI ρ 0 0) 30 5 (i32 0) (i32 n) from rfl, rsI_at (by decide) (by decide), b1_some]
        exact r1
      by_cases h2c : 2 ≤ nc
      · rw [if_pos h2c] at hn2
        rw [if_pos (show (2 : Int32) ≤ i32 nc from (i32_le (a := 2) (by decide) (by omega)).mpr h2c), ← hn2]
        exact hB
      · rw [if_neg h2c] at hn2
        rw [if_neg (show ¬ (2 : Int32) ≤ i32 nc from fun q => h2c ((i32_le (a := 2) (by decide) (by omega)).mp q))]
        rw [hn2] at hB ⊢
        exact hB
    · refine (co.ext e2 (by decide)).fn (fun k hk => ?_)
      obtain ⟨⟨q1, q2⟩, q3, q4⟩ := g5 k (by omega)
      obtain ⟨q5, q6⟩ := r2 k (by omega) (by omega)
      show fx k = f (8 * 0 + k) ∧ fy k = g (8 * 0 + k)
      rw [Nat.mul_zero, Nat.zero_add, q5, q6]
      exact ⟨q1, q2⟩
    · obtain ⟨⟨q1, q2⟩, q3, q4⟩ := g5 k (by omega)
      obtain ⟨q5, q6⟩ := r2 k (by omega) (by omega)
      show inB (f (8 * 0 + k)) ∧ inB (g (8 * 0 + k))
      rw [Nat.mul_zero, Nat.zero_add, q5, q6]
      exact ⟨q3, q4⟩
    · obtain ⟨ff, w1, w2⟩ := h8.ext e (fun q hq => by omega)
      refine ⟨ff, w1, fun w hw => (w2 w hw).rho (Nat.le_refl _) rfl rfl rfl rfl (fun k hk => ⟨rfl, rfl, rfl, rfl, rfl, fun _ _ => rfl⟩) (upd_ne (ra ρ 30) (i32 n) (Nat.succ_ne_zero w)) (fun k hk => r3 _ (.inr (by omega)))⟩
  exact main _ (by split <;> omega) rfl
