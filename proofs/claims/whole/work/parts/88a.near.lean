/-! near -/
theorem i64_lt {a b : Int32} : (a.toInt64 < b.toInt64) ↔ a < b := by
  rw [Int64.lt_iff_toInt_lt, Int32.lt_iff_toInt_lt, Int32.toInt_toInt64, Int32.toInt_toInt64]
theorem IP.sq {ro : Nat → Nat} {μ : Mem} {ρ : RS} {pl : Nat → Nat} {N i : Nat} (h : IP ro μ ρ pl N i) (hi : i < 30) (day : Int32) {x y : Int32} (hx : inB x) (hy : inB y) {k a : Nat} (s1 : S_Pl_shapeOn (some (pl i)) day μ = some (some a)) (s2 : R_M_shapeOf (i32 i) day ρ = some (i32 (3 * i + k))) (hk : k < 3) (s3 : IZ ro μ ρ (3 * i + k) a) : ∃ s : Int32, S_Pl_squareTo (some (pl i)) x y day μ = some s ∧ R_M_square (i32 i) day x y ρ = some s := by
  obtain ⟨sh, sd, nm, lk, p1, p2⟩ := h
  obtain ⟨n, z1, z2, z3, z4, z5, z6⟩ := s3
  obtain ⟨fs, hc⟩ := z4.co.cell
  refine ⟨sqm (fun j => ra ρ 7 (8 * (3 * i + k) + j)) (fun j => ra ρ 8 (8 * (3 * i + k) + j)) x y n 0 1073741824, ?_, ?_⟩
  rotate_left
  · unfold R_M_square
    rw [s2, b1_some]
    exact R_sq0 (ρ := ρ) (s := 3 * i + k) (by omega) z1 z2 z3 (fun j _ => rfl) (fun j _ => rfl) z5 hx hy
  · unfold S_Pl_squareTo B_Pl_squareTo_24
    rw [rc_at p1.1, b1_some, s1, b1_some, if_neg (some_ne _), rc_at hc, b1_some, Co_squareTo_eq z4.co, b1_some]
def nQ (ρ : RS) (S Hs : Nat → Int32) (n : Nat) : RS := rpI (rset (rset ρ 51 S) 37 Hs) 36 (i32 n)
theorem nQ_S (ρ : RS) (S S' Hs : Nat → Int32) (n : Nat) : rset (nQ ρ S Hs n) 51 S' = nQ ρ S' Hs n := by
  show (va_up (ri ρ) 36 (i32 n), rl ρ, va_up (va_up (va_up (ra ρ) 51 S) 37 Hs) 51 S', rL ρ) = (va_up (ri ρ) 36 (i32 n), rl ρ, va_up (va_up (ra ρ) 51 S') 37 Hs, rL ρ)
  congr 3
  funext q
  unfold va_up
  grind
theorem nQ_H (ρ : RS) (S Hs Hs' : Nat → Int32) (n n' : Nat) : rpI (rset (nQ ρ S Hs n) 37 Hs') 36 (i32 n') = nQ ρ S Hs' n' := by
  show (va_up (va_up (ri ρ) 36 (i32 n)) 36 (i32 n'), rl ρ, va_up (va_up (va_up (ra ρ) 51 S) 37 Hs) 37 Hs', rL ρ) = (va_up (ri ρ) 36 (i32 n'), rl ρ, va_up (va_up (ra ρ) 51 S) 37 Hs', rL ρ)
  rw [up2, up2]
theorem cmp2 {ρ : RS} {p q : Nat} (hp : p < 30) (hq : q < 30) : ∃ c : Int32, R_M_compareKeys (i32 p) (i32 q) 2 ρ = some c ∧ (c ≤ 0 ↔ ¬ ra ρ 51 q < ra ρ 51 p) := by
  unfold R_M_compareKeys RB_M_compareKeys_104
  rw [if_neg (by decide), if_pos rfl, rgI_at hp (by decide), b1_some, rgI_at hq (by decide), b1_some, b1_some, b1_some]
  by_cases h1 : ra ρ 51 q ≤ ra ρ 51 p
  · rw [if_pos h1]
    by_cases h2 : ra ρ 51 p ≤ ra ρ 51 q
    · rw [if_pos h2]
      exact ⟨0, rfl, ⟨fun _ => i32_nlt.mpr h2, fun _ => by decide⟩⟩
    · rw [if_neg h2]
      exact ⟨1, rfl, ⟨fun q => absurd q (by decide), fun q => absurd (i32_nle.mp h2) q⟩⟩
  · rw [if_neg h1]
    exact ⟨-1, rfl, ⟨fun _ q => h1 (Int32.le_of_lt q), fun _ => by decide⟩⟩
/-- the hits so far: their numbers lie in both -/
def HL (ro : Nat → Nat) (μ : Mem) (H an ak n : Nat) (Hs : Nat → Int32) (κ : Nat → Int64) (h : Nat → Nat) (k : Nat) : Prop := n ≤ k ∧ Is ro μ H 11 (.inr (4, [.ref an, .ref ak, .int (i32 n)])) ∧ (∃ f, Is ro μ an 12 (.inl (0, 30, .inl f)) ∧ ∀ j, j < n → f j = Hs j) ∧ (∃ g, Is ro μ ak 13 (.inl (1, 30, .inr (.inl g))) ∧ ∀ j, j < n → g j = κ (h j)) ∧ ∀ j, j < n → Hs j = i32 (h j) ∧ h j < k
theorem HL.add {ro : Nat → Nat} {μ : Mem} {H an ak n k : Nat} {Hs : Nat → Int32} {κ : Nat → Int64} {h : Nat → Nat} (hL : HL ro μ H an ak n Hs κ h k) (hk : k < 30) (w : WF μ) (lo : LO μ) : ∃ (μ' : Mem) (p : Nat), S_Hi_add (some H) (i32 k) (κ k) μ = some ((), μ') ∧ Ext WH ro μ ro μ' ∧ p = posF (fun j => decide (κ k < κ (h j))) n ∧ HL ro μ' H an ak (n + 1) (shA Hs n p (i32 k)) κ (shA h n p k) (k + 1) := by
  obtain ⟨l1, l2, ⟨f, l3, l4⟩, ⟨g, l5, l6⟩, l7⟩ := hL
  obtain ⟨μ', q1, q2, q3, q4, q5⟩ := Hi_add_eq (i32 k) (κ k) (show n < 30 by omega) w lo l2 l3 l5
  have hpos : ∀ m, m ≤ n → posF (fun j => decide (κ k < g j)) m = posF (fun j => decide (κ k < κ (h j))) m := by
    intro m
    induction m with
    | zero => intro _; unfold posF; rfl
    | succ m ih =>
      intro hm
      unfold posF
      rw [ih (by omega), l6 m (by omega)]
  rw [hpos n (Nat.le_refl _)] at q4 q5
  have hple := posF_le (fun j => decide (κ k < κ (h j))) n
  refine ⟨μ', _, q1, q2, rfl, by omega, q3, ⟨_, q4, fun j hj => ?_⟩, ⟨_, q5, fun j hj => ?_⟩, fun j hj => ?_⟩
  · unfold shA
    split
    · exact l4 j (by omega)
    · split
      · rfl
      · split
        · exact l4 (j - 1) (by omega)
        · omega
  · unfold shA
    split
    · exact l6 j (by omega)
    · split
      · rfl
      · split
        · exact l6 (j - 1) (by omega)
        · omega
  · unfold shA
    split
    · exact ⟨(l7 j (by omega)).1, by have := (l7 j (by omega)).2; omega⟩
    · split
      · exact ⟨rfl, by omega⟩
      · split
        · exact ⟨(l7 (j - 1) (by omega)).1, by have := (l7 (j - 1) (by omega)).2; omega⟩
        · omega
theorem HL.skip {ro : Nat → Nat} {μ : Mem} {H an ak n k : Nat} {Hs : Nat → Int32} {κ : Nat → Int64} {h : Nat → Nat} (hL : HL ro μ H an ak n Hs κ h k) : HL ro μ H an ak n Hs κ h (k + 1) := by
  obtain ⟨l1, l2, l3, l4, l5⟩ := hL
  exact ⟨by omega, l2, l3, l4, fun j hj => ⟨(l5 j hj).1, by have := (l5 j hj).2; omega⟩⟩
theorem HL.key {ro : Nat → Nat} {μ : Mem} {H an ak n k : Nat} {Hs : Nat → Int32} {κ κ' : Nat → Int64} {h : Nat → Nat} (hL : HL ro μ H an ak n Hs κ h k) (e : ∀ j, j < k → κ' j = κ j) : HL ro μ H an ak n Hs κ' h k := by
  obtain ⟨l1, l2, l3, ⟨g, l4, l5⟩, l6⟩ := hL
  exact ⟨l1, l2, l3, ⟨g, l4, fun j hj => by rw [l5 j hj, e _ (l6 j hj).2]⟩, l6⟩
set_option maxHeartbeats 4000000 in
theorem near_loop {ro : Nat → Nat} {b c v : Nat} {ρ : RS} {μ0 : Mem} {N : Nat} {pl : Nat → Nat} {lPl aX aY nc rt aT nt lC aW hH eE rR an H1 K1 : Nat} {x y v3 kind day : Int32} (h1 : Is ro μ0 c 2 (PFc lPl aX aY nc rt aT nt lC aW hH eE rR an)) (h2 : IPs ro μ0 ρ pl N lPl) (hx : inB x) (hy : inB y) (m : Nat) : ∀ (k fuel : Nat) (μ : Mem) (S Hs : Nat → Int32) (n : Nat) (h : Nat → Nat), WF μ → LO μ → Ext WH ro μ0 ro μ → HL ro μ hH H1 K1 n Hs (fun p => (S p).toInt64) h k → k + m = N → m < fuel → ∃ μ' S' Hs' n' h', B_P_near_73 fuel (some c) x y v3 kind day (i32 k) μ = b1 (gR μ' (some c) 11 9) (fun x151 => b1 (rc μ' x151 4) (fun _ => b2 (S_Hi_keepFirst x151 v3 μ') (fun x155 m155 => b1 (gR m155 (some c) 11 9) (fun x159 => b1 (gI m155 x159 4 2) (fun x162 => some (.inr x162, m155)))))) ∧ RB_M_near_63 fuel x y v3 kind day (i32 k) (nQ (rpI ρ 0 0) S Hs n) = (if v3 ≤ i32 n' then RB_M_near_151 v3 (nQ (rpI ρ 0 0) S' Hs' n') else RB_M_near_151 (i32 n') (nQ (rpI ρ 0 0) S' Hs' n')) ∧ WF μ' ∧ LO μ' ∧ Ext WH ro μ0 ro μ' ∧ HL ro μ' hH H1 K1 n' Hs' (fun p => (S' p).toInt64) h' N := by
  have hN := h2.2.1
  have nW : ∀ r, ¬ (r = 11 ∨ r = 12 ∨ r = 13) → ¬ WH r := fun r h q => h q
  induction m with
  | zero =>
    intro k fuel μ S Hs n h w lo e hL hk hf
    cases fuel with
    | zero => omega
    | succ fuel =>
      have h1k := h1.ext e (nW _ (by omega))
      have h2k := h2.ext e (fun q hq => nW _ (by omega))
      refine ⟨μ, S, Hs, n, h, ?_, ?_, w, lo, e, by rw [show N = k by omega]; exact hL⟩
      · show b1 (gR μ (some c) 11 0) (fun x76 => b1 (rc μ x76 0) (fun _ => b1 (S_Al_size x76 μ) (fun x79 => if x79 ≤ i32 k then b1 (gR μ (some c) 11 9) (fun x151 => b1 (rc μ x151 4) (fun _ => b2 (S_Hi_keepFirst x151 v3 μ) (fun x155 m155 => b1 (gR m155 (some c) 11 9) (fun x159 => b1 (gI m155 x159 4 2) (fun x162 => some ((Sum.inr x162 : Nat ⊕ Int32), m155)))))) else _))) = _
        rw [gR_at h1k.1 (k := 0) rfl, b1_some, h2k.2.2.1.rc, b1_some, h2k.2.2.1.size, b1_some, if_pos ((i32_le (by omega) (by omega)).mpr (by omega))]
      · show (if ri (nQ (rpI ρ 0 0) S Hs n) 1 ≤ i32 k then (if v3 ≤ ri (nQ (rpI ρ 0 0) S Hs n) 36 then RB_M_near_151 v3 (nQ (rpI ρ 0 0) S Hs n) else RB_M_near_151 (ri (nQ (rpI ρ 0 0) S Hs n) 36) (nQ (rpI ρ 0 0) S Hs n)) else _) = _
        rw [show ri (nQ (rpI ρ 0 0) S Hs n) 1 = i32 N from h2.1, if_pos ((i32_le (by omega) (by omega)).mpr (by omega)), show ri (nQ (rpI ρ 0 0) S Hs n) 36 = i32 n from rfl]
  | succ m ih =>
    intro k fuel μ S Hs n h w lo e hL hk hf
    cases fuel with
    | zero => omega
    | succ fuel =>
      have h1k := h1.ext e (nW _ (by omega))
      have h2k := h2.ext e (fun q hq => nW _ (by omega))
      have hkN : k < N := by omega
      have h2q : IPs ro μ (nQ (rpI ρ 0 0) S Hs n) pl N lPl := h2k.same rfl rfl rfl rfl rfl rfl rfl rfl rfl rfl rfl rfl rfl rfl rfl rfl rfl
      have hPk := h2q.2.2.2 k hkN
      obtain ⟨j, a, o, s1, s2, s3, s4, s5, s6⟩ := hPk.shape (by omega) day
      have hPk2 := hPk
      obtain ⟨sh, sd, nm, lk, p1, p2⟩ := hPk2
      have vkind : gI μ (some (pl k)) 7 1 = some (ra ρ 2 k) := gI_at p1.1 rfl
      have rkind : rgI (nQ (rpI ρ 0 0) S Hs n) 2 30 (i32 k) = some (ra ρ 2 k) := rgI_at (ρ := nQ (rpI ρ 0 0) S Hs n) (by omega) (by decide)
      have expC : B_P_near_73 (fuel + 1) (some c) x y v3 kind day (i32 k) μ = if bI (o = true ∧ ¬ ra ρ 3 k ≤ day) = 0 then B_P_near_73 fuel (some c) x y v3 kind day (i32 (k + 1)) μ else if kind = -1 then B_P_near_125 (fun v0 v1 v2 v3 v4 v5 v7 μ => B_P_near_73 fuel v0 v1 v2 v3 v4 v5 v7 μ) (some c) x y v3 kind day (i32 k) (some (pl k)) μ else if ra ρ 2 k = kind then B_P_near_125 (fun v0 v1 v2 v3 v4 v5 v7 μ => B_P_near_73 fuel v0 v1 v2 v3 v4 v5 v7 μ) (some c) x y v3 kind day (i32 k) (some (pl k)) μ else B_P_near_73 fuel (some c) x y v3 kind day (i32 (k + 1)) μ := by
        show b1 (gR μ (some c) 11 0) (fun x76 => b1 (rc μ x76 0) (fun _ => b1 (S_Al_size x76 μ) (fun x79 => if x79 ≤ i32 k then _ else b1 (gR μ (some c) 11 0) (fun x86 => b1 (rc μ x86 0) (fun _ => b1 (S_Al_get x86 (i32 k) μ) (fun x91 => b1 (cK μ x91 7) (fun _ => b1 (rc μ x91 7) (fun _ => b1 (S_Pl_isThere x91 day μ) (fun x103 => if x103 = 0 then B_P_near_73 fuel (some c) x y v3 kind day (i32 k + 1) μ else if kind = -1 then B_P_near_125 (fun v0 v1 v2 v3 v4 v5 v7 μ => B_P_near_73 fuel v0 v1 v2 v3 v4 v5 v7 μ) (some c) x y v3 kind day (i32 k) x91 μ else b1 (gI μ x91 7 1) (fun x117 => if x117 = kind then B_P_near_125 (fun v0 v1 v2 v3 v4 v5 v7 μ => B_P_near_73 fuel v0 v1 v2 v3 v4 v5 v7 μ) (some c) x y v3 kind day (i32 k) x91 μ else B_P_near_73 fuel (some c) x y v3 kind day (i32 k + 1) μ)))))))))) = _
        rw [gR_at h1k.1 (k := 0) rfl, b1_some, h2k.2.2.1.rc, b1_some, h2k.2.2.1.size, b1_some, if_neg (fun q => by have := (i32_le (by omega) (by omega)).mp q; omega), b1_some, h2k.2.2.1.rc, b1_some, h2k.2.2.1.get hkN, b1_some, cK_at p1.1, b1_some, rc_at p1.1, b1_some, s3, b1_some, i32_succ, vkind, b1_some]
        rfl
      have expR : RB_M_near_63 (fuel + 1) x y v3 kind day (i32 k) (nQ (rpI ρ 0 0) S Hs n) = if bI (o = true ∧ ¬ ra ρ 3 k ≤ day) = 0 then RB_M_near_63 fuel x y v3 kind day (i32 (k + 1)) (nQ (rpI ρ 0 0) S Hs n) else if kind = -1 then RB_M_near_104 (fun v1 v2 v3 v4 v5 v6 ρ => RB_M_near_63 fuel v1 v2 v3 v4 v5 v6 ρ) x y v3 kind day (i32 k) (nQ (rpI ρ 0 0) S Hs n) else if ra ρ 2 k = kind then RB_M_near_104 (fun v1 v2 v3 v4 v5 v6 ρ => RB_M_near_63 fuel v1 v2 v3 v4 v5 v6 ρ) x y v3 kind day (i32 k) (nQ (rpI ρ 0 0) S Hs n) else RB_M_near_63 fuel x y v3 kind day (i32 (k + 1)) (nQ (rpI ρ 0 0) S Hs n) := by
        show (if ri (nQ (rpI ρ 0 0) S Hs n) 1 ≤ i32 k then _ else b1 (R_M_isThere (i32 k) day (nQ (rpI ρ 0 0) S Hs n)) (fun x77 => if x77 = 0 then RB_M_near_63 fuel x y v3 kind day (i32 k + 1) (nQ (rpI ρ 0 0) S Hs n) else if kind = -1 then RB_M_near_104 (fun v1 v2 v3 v4 v5 v6 ρ => RB_M_near_63 fuel v1 v2 v3 v4 v5 v6 ρ) x y v3 kind day (i32 k) (nQ (rpI ρ 0 0) S Hs n) else b1 (rgI (nQ (rpI ρ 0 0) S Hs n) 2 30 (i32 k)) (fun x95 => if x95 = kind then RB_M_near_104 (fun v1 v2 v3 v4 v5 v6 ρ => RB_M_near_63 fuel v1 v2 v3 v4 v5 v6 ρ) x y v3 kind day (i32 k) (nQ (rpI ρ 0 0) S Hs n) else RB_M_near_63 fuel x y v3 kind day (i32 k + 1) (nQ (rpI ρ 0 0) S Hs n)))) = _
        rw [show ri (nQ (rpI ρ 0 0) S Hs n) 1 = i32 N from h2.1, if_neg (fun q => by have := (i32_le (by omega) (by omega)).mp q; omega), s4, b1_some, rkind, b1_some, i32_succ]
        rfl
      rw [expC, expR]
      have skip := ih (k + 1) fuel μ S Hs n h w lo e hL.skip (by omega) (by omega)
      by_cases ht : o = true ∧ ¬ ra ρ 3 k ≤ day
      · have hbi : ¬ bI (o = true ∧ ¬ ra ρ 3 k ≤ day) = 0 := by rw [bI_pos ht]; decide
        rw [if_neg hbi, if_neg hbi]
        obtain ⟨rfl, hrem⟩ := ht
        obtain ⟨sq, q1, q2⟩ := hPk.sq (by omega) day hx hy s1 s2 s5 (s6 rfl)
        have hL2 : HL ro μ hH H1 K1 n Hs (fun p => (upd S k sq p).toInt64) h k := hL.key (fun j hj => by show (upd S k sq j).toInt64 = (S j).toInt64; rw [upd_ne _ _ (by omega)])
        obtain ⟨μ1, p, a1, a2, a3, a4⟩ := hL2.add (by omega) w lo
        have hsqk : (upd S k sq k).toInt64 = sq.toInt64 := by rw [upd_at]
        have hins : R_M_insert (i32 k) 2 (nQ (rpI ρ 0 0) (upd S k sq) Hs n) = some ((), nQ (rpI ρ 0 0) (upd S k sq) (shA Hs n p (i32 k)) (n + 1)) := by
          have hR := R_insert_eq (ρ := nQ (rpI ρ 0 0) (upd S k sq) Hs n) (id := k) (n := n) (order := 2) (gt := fun j => decide ((upd S k sq k).toInt64 < (upd S k sq (h j)).toInt64)) (by have := hL.1; omega) rfl (fun F' j hj => by
            have hj1 := hL.2.2.2.2 j hj
            rw [show ra (nQ (rpI ρ 0 0) (upd S k sq) Hs n) 37 j = i32 (h j) from hj1.1]
            obtain ⟨cc, e1, e2⟩ := cmp2 (ρ := rset (nQ (rpI ρ 0 0) (upd S k sq) Hs n) 37 F') (p := h j) (q := k) (by omega) (by omega)
            refine ⟨cc, e1, e2.trans ?_⟩
            show (¬ upd S k sq k < upd S k sq (h j)) ↔ decide ((upd S k sq k).toInt64 < (upd S k sq (h j)).toInt64) = false
            rw [decide_eq_false_iff_not, i64_lt])
          rw [hR, ← a3, nQ_H]
          rfl
        have c125 : B_P_near_125 (fun v0 v1 v2 v3 v4 v5 v7 μ => B_P_near_73 fuel v0 v1 v2 v3 v4 v5 v7 μ) (some c) x y v3 kind day (i32 k) (some (pl k)) μ = B_P_near_73 fuel (some c) x y v3 kind day (i32 (k + 1)) μ1 := by
          unfold B_P_near_125 B_P_near_144
          rw [gR_at h1k.1 (k := 9) rfl, b1_some, rc_at p1.1, b1_some, q1, b1_some, rc_at hL.2.1.1, b1_some, ← hsqk, a1, b2_some, i32_succ]
        have r104 : RB_M_near_104 (fun v1 v2 v3 v4 v5 v6 ρ => RB_M_near_63 fuel v1 v2 v3 v4 v5 v6 ρ) x y v3 kind day (i32 k) (nQ (rpI ρ 0 0) S Hs n) = RB_M_near_63 fuel x y v3 kind day (i32 (k + 1)) (nQ (rpI ρ 0 0) (upd S k sq) (shA Hs n p (i32 k)) (n + 1)) := by
          unfold RB_M_near_104 RB_M_near_128
          rw [q2, b1_some, rsI_at (by omega) (by decide), b1_some, show ra (nQ (rpI ρ 0 0) S Hs n) 51 = S from rfl, nQ_S, hins, i32_succ]
          rfl
        have hadd := ih (k + 1) fuel μ1 (upd S k sq) (shA Hs n p (i32 k)) (n + 1) (shA h n p k) a2.wf (a2.lo w lo) (e.tr a2) a4 (by omega) (by omega)
        rw [c125, r104]
        by_cases hk1 : kind = -1
        · rw [if_pos hk1, if_pos hk1]
          exact hadd
        · rw [if_neg hk1, if_neg hk1]
          by_cases hk2 : ra ρ 2 k = kind
          · rw [if_pos hk2, if_pos hk2]
            exact hadd
          · rw [if_neg hk2, if_neg hk2]
            exact skip
      · rw [if_pos (bI_neg ht), if_pos (bI_neg ht)]
        exact skip
