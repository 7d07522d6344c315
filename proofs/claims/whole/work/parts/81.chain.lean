/-! no chain is longer than there are places -/
theorem pigeon (n : Nat) : ∀ f : Nat → Nat, (∀ k, k ≤ n → f k < n) → ∃ a b, a < b ∧ b ≤ n ∧ f a = f b := by
  induction n with
  | zero => intro f h; exact absurd (h 0 (Nat.le_refl _)) (Nat.not_lt_zero _)
  | succ n ih =>
    intro f h
    by_cases hc : ∃ k, k ≤ n ∧ f k = f (n + 1)
    · obtain ⟨k, h1, h2⟩ := hc
      exact ⟨k, n + 1, by omega, by omega, h2⟩
    · have hc : ∀ k, k ≤ n → f k ≠ f (n + 1) := fun k hk q => hc ⟨k, hk, q⟩
      obtain ⟨a, b, h1, h2, h3⟩ := ih (fun k => if f k = n then f (n + 1) else f k) (fun k hk => by
        have h1 := h k (by omega)
        have h2 := h (n + 1) (Nat.le_refl _)
        have h3 := hc k hk
        split <;> omega)
      refine ⟨a, b, h1, by omega, ?_⟩
      have ha := hc a (by omega)
      have hb := hc b (by omega)
      split at h3 <;> split at h3 <;> omega
theorem itU_add (up : Nat → Option Nat) (a m : Nat) : ∀ i, itU up (a + m) i = (itU up a i).bind (itU up m) := by
  induction a with
  | zero => intro i; rw [Nat.zero_add]; rfl
  | succ a ih =>
    intro i
    rw [show a + 1 + m = (a + m) + 1 by omega]
    show (up i).bind (itU up (a + m)) = ((up i).bind (itU up a)).bind (itU up m)
    cases up i with
    | none => rfl
    | some j => exact ih j
theorem itU_none {up : Nat → Option Nat} {a b i : Nat} (h : itU up a i = none) (hab : a ≤ b) : itU up b i = none := by
  rw [show b = a + (b - a) by omega, itU_add, h]
  rfl
theorem itU_lt {up : Nat → Option Nat} {N : Nat} (hup : ∀ i, i < N → ∀ j, up i = some j → j < N) (m : Nat) : ∀ i, i < N → ∀ j, itU up m i = some j → j < N := by
  induction m with
  | zero => intro i hi j hj; cases hj; exact hi
  | succ m ih =>
    intro i hi j hj
    cases hu : up i with
    | none =>
      have hj : (up i).bind (itU up m) = some j := hj
      rw [hu] at hj
      cases hj
    | some q =>
      have hj : (up i).bind (itU up m) = some j := hj
      rw [hu] at hj
      exact ih q (hup i hi q hu) j hj
theorem it_short {up : Nat → Option Nat} {N : Nat} (hup : ∀ i, i < N → ∀ j, up i = some j → j < N) (hac : ∀ i m, i < N → itU up (m + 1) i ≠ some i) {i : Nat} (hi : i < N) : itU up N i = none := by
  cases hN : itU up N i with
  | none => rfl
  | some q =>
    exfalso
    have hs : ∀ k, k ≤ N → ∃ j, itU up k i = some j := by
      intro k hk
      cases hq : itU up k i with
      | none => rw [itU_none hq hk] at hN; cases hN
      | some j => exact ⟨j, rfl⟩
    obtain ⟨a, b, h1, h2, h3⟩ := pigeon N (fun k => (itU up k i).getD 0) (fun k hk => by
      obtain ⟨j, hj⟩ := hs k hk
      rw [hj]
      exact itU_lt hup k i hi j hj)
    obtain ⟨x, hx⟩ := hs a (by omega)
    obtain ⟨y, hy⟩ := hs b h2
    have hxy : x = y := by
      rw [hx, hy] at h3
      exact h3
    subst hxy
    rw [show b = a + (b - a - 1 + 1) by omega, itU_add, hx] at hy
    exact hac x (b - a - 1) (itU_lt hup a i hi x hx) hy
theorem bel_stable {up : Nat → Option Nat} {id : Int32} (m : Nat) : ∀ (j m' : Nat), itU up m j = none → m ≤ m' → belF up id m' (some j) = belF up id m (some j) := by
  induction m with
  | zero => intro j m' h; cases h
  | succ m ih =>
    intro j m' h hm
    cases m' with
    | zero => omega
    | succ m' =>
      show (if i32 j = id then true else belF up id m' (up j)) = (if i32 j = id then true else belF up id m (up j))
      split
      · rfl
      · cases hu : up j with
        | none => cases m <;> cases m' <;> rfl
        | some q =>
          have h : (up j).bind (itU up m) = none := h
          rw [hu] at h
          exact ih q m' h (by omega)
/-! chain -/
theorem P_chn {μ : Mem} {pl : Nat → Nat} {N I : Nat} {up : Nat → Option Nat} {day : Int32} (hI : I < 30) (hrc : ∀ i, i < N → rc μ (some (pl i)) 7 = some ()) (hab : ∀ i, i < N → S_Pl_aboveOn (some (pl i)) day μ = some ((up i).map pl)) (hup : ∀ i, i < N → ∀ j, up i = some j → j < N) (m : Nat) : ∀ (s : Nat) (cur : Option Nat) (fuel : Nat), (∀ i, cur = some i → i < N) → s + m = I + 1 → m < fuel → B_P_chain_45 fuel day (i32 I) (cur.map pl) (i32 s) μ = B_P_chain_70 ((cur.bind (itU up m)).map pl) μ := by
  induction m with
  | zero =>
    intro s cur fuel hc hs hf
    cases fuel with
    | zero => omega
    | succ fuel =>
      show (if i32 I < i32 s then B_P_chain_70 (cur.map pl) μ else _) = _
      rw [if_pos ((i32_lt (by omega) (by omega)).mpr (by omega))]
      cases cur <;> rfl
  | succ m ih =>
    intro s cur fuel hc hs hf
    cases fuel with
    | zero => omega
    | succ fuel =>
      show (if i32 I < i32 s then B_P_chain_70 (cur.map pl) μ else if cur.map pl = none then B_P_chain_70 (cur.map pl) μ else b1 (rc μ (cur.map pl) 7) (fun _ => b1 (S_Pl_aboveOn (cur.map pl) day μ) (fun x59 => B_P_chain_45 fuel day (i32 I) x59 (i32 s + 1) μ))) = _
      rw [if_neg (fun q => by have := (i32_lt (by omega) (by omega)).mp q; omega)]
      cases cur with
      | none => rw [if_pos (show Option.map pl none = none from rfl)]; rfl
      | some j =>
        have hj := hc j rfl
        rw [show Option.map pl (some j) = some (pl j) from rfl, if_neg (some_ne _), hrc j hj, b1_some, hab j hj, b1_some, i32_succ]
        exact ih (s + 1) (up j) fuel (hup j hj) (by omega) (by omega)
theorem R_chn {ρ : RS} {N I : Nat} {up : Nat → Option Nat} {day : Int32} (hN : N ≤ 30) (hI : I < 2 ^ 31) (hpa : ∀ i, i < N → R_M_parentOf (i32 i) day ρ = some (plNo (up i))) (hup : ∀ i, i < N → ∀ j, up i = some j → j < N) (B : Nat) : ∀ (k : Nat) (cur : Option Nat) (fuel : Nat), (∀ i, cur = some i → i < N) → cur.bind (itU up B) = none → B < fuel → k ≤ I → RB_M_chain_48 fuel day (i32 I) (plNo cur) (i32 k) ρ = some (plNo (cur.bind (itU up (I - k))), ρ) := by
  induction B with
  | zero =>
    intro k cur fuel hc hs hf hk
    cases cur with
    | some j => cases hs
    | none =>
      cases fuel with
      | zero => omega
      | succ fuel =>
        show (if i32 I ≤ i32 k then RB_M_chain_75 (-1) ρ else if (-1 : Int32) = -1 then RB_M_chain_75 (-1) ρ else _) = _
        split
        · rfl
        · rw [if_pos rfl]; rfl
  | succ B ih =>
    intro k cur fuel hc hs hf hk
    cases fuel with
    | zero => omega
    | succ fuel =>
      cases cur with
      | none =>
        show (if i32 I ≤ i32 k then RB_M_chain_75 (-1) ρ else if (-1 : Int32) = -1 then RB_M_chain_75 (-1) ρ else _) = _
        split
        · rfl
        · rw [if_pos rfl]; rfl
      | some j =>
        have hj := hc j rfl
        show (if i32 I ≤ i32 k then RB_M_chain_75 (i32 j) ρ else if i32 j = -1 then RB_M_chain_75 (i32 j) ρ else b1 (R_M_parentOf (i32 j) day ρ) (fun x64 => RB_M_chain_48 fuel day (i32 I) x64 (i32 k + 1) ρ)) = _
        by_cases hIk : I = k
        · subst hIk
          rw [if_pos (Int32.le_refl _), Nat.sub_self]
          rfl
        · rw [if_neg (fun q => by have := (i32_le (by omega) (by omega)).mp q; omega), if_neg (plNo_neg (by omega)), hpa j hj, b1_some, i32_succ]
          rw [ih (k + 1) (up j) fuel (hup j hj) hs (by omega) (by omega), show I - k = (I - (k + 1)) + 1 by omega]
          rfl
theorem bind_no {o : Option Nat} {f : Nat → Option Nat} (h : ∀ j, o = some j → f j = none) : o.bind f = none := by
  cases o with
  | none => rfl
  | some j => exact h j rfl
theorem IPs.ups {ro : Nat → Nat} {μ : Mem} {ρ : RS} {pl : Nat → Nat} {N l : Nat} (h : IPs ro μ ρ pl N l) (hA : IA ρ N) (day : Int32) : (∀ i, i < N → gI μ (some (pl i)) 7 0 = some (i32 i)) ∧ (∀ i, i < N → rc μ (some (pl i)) 7 = some ()) ∧ (∀ i, i < N → S_Pl_aboveOn (some (pl i)) day μ = some ((upD ρ day i).map pl)) ∧ (∀ i, i < N → R_M_parentOf (i32 i) day ρ = some (plNo (upD ρ day i))) ∧ (∀ i, i < N → ∀ j, upD ρ day i = some j → j < N) ∧ ∀ i, i < N → itU (upD ρ day) 30 i = none := by
  have hu : ∀ i, i < N → _ := fun i hi => (h.2.2.2 i hi).up h.2.1 hA hi day
  refine ⟨fun i hi => ?_, fun i hi => ?_, fun i hi => (hu i hi).1, fun i hi => (hu i hi).2.1, fun i hi => (hu i hi).2.2, fun i hi => ?_⟩
  · obtain ⟨sh, sd, nm, lk, h1, h2⟩ := h.2.2.2 i hi
    exact gI_at h1.1 rfl
  · obtain ⟨sh, sd, nm, lk, h1, h2⟩ := h.2.2.2 i hi
    exact rc_at h1.1
  · exact itU_none (it_short (fun i hi => (hu i hi).2.2) (fun i m hi => hA.2.2.2 day i m hi) hi) h.2.1
theorem call_chain {b c v : Nat} {ρ : RS} {μ : Mem} (hI : Invt b c v ρ μ) (hov : ov b ρ μ = μ) (x y z : Int32) : CallI (S_P_chain (some c) x y z) (R_M_chain x y z) [(0, 1)] b c v ρ μ := by
  have hI0 := hI
  obtain ⟨ro, N, pl, lPl, aX, aY, nc, rt, aT, nt, lC, aW, hH, eE, rR, an, h1, h2, h3, h4, h5, h6, h7, h8, h9, h10, h11, h12, h13, h14, h15, h16⟩ := hI
  have g1 := h2.1
  have g2 := h2.2.1
  have hbad : ¬ ((0 ≤ x ∧ x < i32 N) ∧ (0 ≤ y ∧ y ≤ 9999) ∧ 0 ≤ z) → CallI (S_P_chain (some c) x y z) (R_M_chain x y z) [(0, 1)] b c v ρ μ := by
    intro hb
    refine .inr ⟨0, m_up μ, 1, 0, rpI ρ 0 1, ?_, by decide, ?_, rfl, by decide, hI0.code 1⟩
    · unfold S_P_chain B_P_chain_23
      rw [rc_at h1.up.1, b1_some, P_placeOf_eq (μ := m_up μ) h1.up h2 x, b1_some]
      by_cases hx : 0 ≤ x ∧ x < i32 N
      · rw [if_pos hx, if_neg (some_ne _), S_isDay, b1_some]
        by_cases hy : 0 ≤ y ∧ y ≤ 9999
        · rw [if_neg (by rw [bI_pos hy]; decide), if_neg (fun q => hb ⟨hx, hy, q⟩)]
        · rw [if_pos (bI_neg hy)]
      · rw [if_neg hx, if_pos rfl]
    · unfold R_M_chain
      rw [R_isPlace g1 g2, b1_some]
      by_cases hx : 0 ≤ x ∧ x < i32 N
      · rw [if_neg (by rw [bI_pos hx]; decide), R_isDay, b1_some]
        by_cases hy : 0 ≤ y ∧ y ≤ 9999
        · rw [if_neg (by rw [bI_pos hy]; decide), if_neg (fun q => hb ⟨hx, hy, q⟩)]
          rfl
        · rw [if_pos (bI_neg hy)]
          rfl
      · rw [if_pos (bI_neg hx)]
        rfl
  by_cases hx : 0 ≤ x ∧ x < i32 N
  case neg => exact hbad (fun q => hx q.1)
  by_cases hy : 0 ≤ y ∧ y ≤ 9999
  case neg => exact hbad (fun q => hy q.2.1)
  by_cases hz : 0 ≤ z
  case neg => exact hbad (fun q => hz q.2.2)
  obtain ⟨i, rfl, hi⟩ := id_of g2 hx
  obtain ⟨I, rfl, hI2⟩ := i32_pos (i32_nlt.mpr hz)
  obtain ⟨u1, u2, u3, u4, u5, u6⟩ := h2.ups h3 y
  refine .inl ⟨plNo (itU (upD ρ y) (I + 1) i), μ, rpI ρ 0 0, ?_, hov, ?_, rfl, hI0.code 0⟩
  · unfold S_P_chain
    rw [rc_at h1.1, b1_some, P_placeOf_eq h1 h2, b1_some, if_pos hx, if_neg (some_ne _), S_isDay, b1_some, if_neg (by rw [bI_pos hy]; decide), if_pos hz, i32_nat (by omega)]
    by_cases h30 : I < 30
    · rw [if_pos (show i32 I < (30 : Int32) from (i32_lt (b := 30) hI2 (by decide)).mpr h30)]
      have := P_chn (up := upD ρ y) h30 u2 u3 u5 (I + 1) 0 (some i) fu (fun j hj => by cases hj; exact hi) (by omega) (by show I + 1 < 4096; omega)
      rw [show some (pl i) = Option.map pl (some i) from rfl, show (0 : Int32) = i32 0 from rfl, this, show (some i).bind (itU (upD ρ y) (I + 1)) = itU (upD ρ y) (I + 1) i from rfl]
      unfold B_P_chain_70 B_P_chain_84
      cases hq : itU (upD ρ y) (I + 1) i with
      | none => rw [if_pos (show Option.map pl none = none from rfl)]; rfl
      | some j =>
        have hj := itU_lt u5 (I + 1) i hi j hq
        rw [show Option.map pl (some j) = some (pl j) from rfl, if_neg (some_ne _)]
        rw [u1 j hj, b1_some]
        rfl
    · rw [if_neg (show ¬ i32 I < (30 : Int32) from fun q => h30 ((i32_lt (b := 30) hI2 (by decide)).mp q)), itU_none (u6 i hi) (by omega)]
      rfl
  · unfold R_M_chain
    rw [R_isPlace g1 g2, b1_some, if_neg (by rw [bI_pos hx]; decide), R_isDay, b1_some, if_neg (by rw [bI_pos hy]; decide), if_pos hz]
    unfold RB_M_chain_25
    rw [b0_eq, if_pos (show ri (rpI ρ 0 0) 0 ≤ 0 from by show (0 : Int32) ≤ 0; decide)]
    have hpa : ∀ i, i < N → R_M_parentOf (i32 i) y (rpI ρ 0 0) = some (plNo (upD ρ y i)) := (IPs.ups (ρ := rpI ρ 0 0) h2 h3 y).2.2.2.1
    rw [hpa i hi, b1_some, show (0 : Int32) = i32 0 from rfl]
    have hs : (upD ρ y i).bind (itU (upD ρ y) 30) = none := bind_no (fun j hj => u6 j (u5 i hi j hj))
    have := R_chn (ρ := rpI ρ 0 0) (up := upD ρ y) (I := I) g2 hI2 hpa u5 30 0 (upD ρ y i) fu (u5 i hi) hs (by decide) (Nat.zero_le _)
    exact this
theorem call_holds {b c v : Nat} {ρ : RS} {μ : Mem} (hI : Invt b c v ρ μ) (hov : ov b ρ μ = μ) (x y z u : Int32) : CallI (S_P_holds (some c) x y z u) (R_M_holds x y z u) [(0, 1)] b c v ρ μ := by
  have hI0 := hI
  obtain ⟨ro, N, pl, lPl, aX, aY, nc, rt, aT, nt, lC, aW, hH, eE, rR, an, h1, h2, h3, h4, h5, h6, h7, h8, h9, h10, h11, h12, h13, h14, h15, h16⟩ := hI
  have g1 := h2.1
  have g2 := h2.2.1
  have hbad : ¬ ((0 ≤ x ∧ x < i32 N) ∧ ((0 ≤ y ∧ y ≤ 4095) ∧ 0 ≤ z ∧ z ≤ 4095) ∧ 0 ≤ u ∧ u ≤ 9999) → CallI (S_P_holds (some c) x y z u) (R_M_holds x y z u) [(0, 1)] b c v ρ μ := by
    intro hb
    refine .inr ⟨0, m_up μ, 1, 0, rpI ρ 0 1, ?_, by decide, ?_, rfl, by decide, hI0.code 1⟩
    · unfold S_P_holds B_P_holds_28
      rw [rc_at h1.up.1, b1_some, P_placeOf_eq (μ := m_up μ) h1.up h2 x, b1_some]
      by_cases hx : 0 ≤ x ∧ x < i32 N
      · rw [if_pos hx, if_neg (some_ne _), S_arePosition, b1_some]
        by_cases hy : (0 ≤ y ∧ y ≤ 4095) ∧ 0 ≤ z ∧ z ≤ 4095
        · rw [if_neg (by rw [bI_pos hy]; decide), S_isDay, b1_some, if_pos (bI_neg (fun q => hb ⟨hx, hy, q⟩))]
        · rw [if_pos (bI_neg hy)]
      · rw [if_neg hx, if_pos rfl]
    · unfold R_M_holds
      rw [R_isPlace g1 g2, b1_some]
      by_cases hx : 0 ≤ x ∧ x < i32 N
      · rw [if_neg (by rw [bI_pos hx]; decide), R_isAt, b1_some]
        by_cases hy : (0 ≤ y ∧ y ≤ 4095) ∧ 0 ≤ z ∧ z ≤ 4095
        · rw [if_neg (by rw [bI_pos hy]; decide), R_isDay, b1_some, if_pos (bI_neg (fun q => hb ⟨hx, hy, q⟩))]
          rfl
        · rw [if_pos (bI_neg hy)]
          rfl
      · rw [if_pos (bI_neg hx)]
        rfl
  by_cases hx : 0 ≤ x ∧ x < i32 N
  case neg => exact hbad (fun q => hx q.1)
  by_cases hy : (0 ≤ y ∧ y ≤ 4095) ∧ 0 ≤ z ∧ z ≤ 4095
  case neg => exact hbad (fun q => hy q.2.1)
  by_cases hu : 0 ≤ u ∧ u ≤ 9999
  case neg => exact hbad (fun q => hu q.2.2)
  obtain ⟨i, rfl, hi⟩ := id_of g2 hx
  obtain ⟨k, a, o, s1, s2', s3, s4, s5, s6⟩ := IP.shape (ρ := rpI ρ 0 0) (h2.2.2.2 i hi) (by omega) u
  have hrc := (h2.ups h3 u).2.1 i hi
  have hS0 : S_P_holds (some c) (i32 i) y z u μ = b1 (S_Pl_shapeOn (some (pl i)) u μ) (fun x43 => if x43 = none then B_P_holds_61 μ else b1 (rc μ x43 2) (fun _ => b1 (S_Co_isPoint x43 μ) (fun x55 => if x55 = 0 then b1 (rc μ x43 2) (fun _ => b1 (S_Co_hasInside x43 y z μ) (fun x67 => if x67 = 0 then B_P_holds_78 0 μ else B_P_holds_78 1 μ)) else B_P_holds_61 μ))) := by
    unfold S_P_holds
    rw [rc_at h1.1, b1_some, P_placeOf_eq h1 h2, b1_some, if_pos hx, if_neg (some_ne _), S_arePosition, b1_some, if_neg (by rw [bI_pos hy]; decide), S_isDay, b1_some, if_neg (by rw [bI_pos hu]; decide), i32_nat (by omega), hrc, b1_some]
  have hR0 : R_M_holds (i32 i) y z u ρ = RB_M_holds_30 (i32 i) y z u 0 ρ := by
    unfold R_M_holds
    rw [R_isPlace g1 g2, b1_some, if_neg (by rw [bI_pos hx]; decide), R_isAt, b1_some, if_neg (by rw [bI_pos hy]; decide), R_isDay, b1_some, if_neg (by rw [bI_pos hu]; decide)]
  have hR1 : RB_M_holds_30 (i32 i) y z u 0 ρ = b1 (R_M_shapeOf (i32 i) u (rpI ρ 0 0)) (fun x46 => if x46 = -1 then RB_M_holds_68 (rpI ρ 0 0) else b1 (rgI (rpI ρ 0 0) 6 90 x46) (fun x63 => if x63 = 1 then RB_M_holds_68 (rpI ρ 0 0) else b1 (R_M_liesIn x46 y z (rpI ρ 0 0)) (fun x77 => if x77 = 0 then RB_M_holds_88 0 (rpI ρ 0 0) else RB_M_holds_88 1 (rpI ρ 0 0)))) := by
    unfold RB_M_holds_30
    rw [b0_eq, if_pos (show ri (rpI ρ 0 0) 0 ≤ 0 from by show (0 : Int32) ≤ 0; decide)]
  cases o with
  | false =>
    refine .inl ⟨-1, μ, rpI ρ 0 0, ?_, hov, ?_, rfl, hI0.code 0⟩
    · rw [hS0, s1, b1_some]
      rfl
    · rw [hR0, hR1, s2', b1_some]
      rfl
  | true =>
    have s7 : IZ ro μ ρ (3 * i + k) a := s6 rfl
    obtain ⟨n, z1, z2, z3, z4, z5, z6⟩ := s7
    obtain ⟨fs, hc⟩ := z4.co.cell
    have s1' : S_Pl_shapeOn (some (pl i)) u μ = some (some a) := s1
    have hne : ¬ (i32 (3 * i + k) = -1) := by
      intro q
      have h1 : (i32 (3 * i + k)).toInt = (-1 : Int32).toInt := by rw [q]
      rw [i32_int (by omega), show (-1 : Int32).toInt = -1 from rfl] at h1
      omega
    have hb := posB hy
    have hl : R_M_liesIn (i32 (3 * i + k)) y z (rpI ρ 0 0) = some (insF n (fun j => ra ρ 7 (8 * (3 * i + k) + j)) (fun j => ra ρ 8 (8 * (3 * i + k) + j)) y z n 0 0) := R_liesIn_eq (ρ := rpI ρ 0 0) (s := 3 * i + k) (by omega) z1 z3 (fun j _ => rfl) (fun j _ => rfl) z5 hb.1 hb.2
    have hc2 := Co_hasInside_eq z4.co y z
    refine .inl ⟨if n = 1 then -1 else if insF n (fun j => ra ρ 7 (8 * (3 * i + k) + j)) (fun j => ra ρ 8 (8 * (3 * i + k) + j)) y z n 0 0 = 0 then 0 else 1, μ, rpI ρ 0 0, ?_, hov, ?_, rfl, hI0.code 0⟩
    · rw [hS0, s1', b1_some, if_neg (some_ne _), rc_at hc, b1_some, Co_isPoint_eq z4.co, b1_some]
      by_cases hn : n = 1
      · rw [if_neg (by rw [bI_pos hn]; decide), if_pos hn]
        rfl
      · rw [if_pos (bI_neg hn), if_neg hn, b1_some, hc2, b1_some]
        split <;> rfl
    · rw [hR0, hR1, s2', b1_some]
      show (if i32 (3 * i + k) = -1 then _ else _) = _
      rw [if_neg hne, show (if true = true then i32 (3 * i + k) else -1) = i32 (3 * i + k) from rfl, rgI_at (by omega) (by decide), show ra (rpI ρ 0 0) 6 (3 * i + k) = i32 n from z1, b1_some]
      by_cases hn : n = 1
      · rw [if_pos (by rw [hn]; rfl), if_pos hn]
        rfl
      · rw [if_neg (show ¬ i32 n = 1 from fun q => hn ((i32_inj (b := 1) (by omega) (by decide)).mp q)), if_neg hn, hl, b1_some]
        split <;> rfl
