/-! fits -/
theorem gdM {α : Type} {r : Int32} (h : r = 0 ∨ r = 1) (x : α) : gd (¬ okZ r = true) (some (r, x)) = some (r, x) := by
  rcases h with rfl | rfl <;> rfl
def rkO (ρ : RS) (ln : Nat → Nat) (i k : Nat) : Nat := rkN (ln k) (dgt (fun j => ra ρ 13 (10 * (2 * i + k) + j))) 10 0 0
def okN (ρ : RS) (ln : Nat → Nat) (i : Nat) (day kind x : Int32) (m : Nat) (u : Nat → Int32) (k : Nat) : Prop := (ra ρ 10 (2 * i + k) ≤ day ∧ day ≤ ra ρ 11 (2 * i + k)) ∧ fitQ kind x (ln k) (fun j => ra ρ 13 (10 * (2 * i + k) + j)) m u
theorem rkO_lt {ρ : RS} {ln : Nat → Nat} {i k : Nat} (h : ltr (ln k) (fun j => ra ρ 13 (10 * (2 * i + k) + j))) : rkO ρ ln i k < 1152921504606846976 :=
  Nat.lt_trans (rk_lt (fun j hj => (h.d j hj).1) 10 0) (by decide)
theorem least_eq {ro : Nat → Nat} {μ : Mem} {ρ : RS} {pl : Nat → Nat} {N i c lPl aX aY nc rt aT nt lC aW hH eE rR an cd m : Nat} {u : Nat → Int32} {kind x y z : Int32} (day : Int32) (w : WF μ) (lo : LO μ) (h1 : Is ro μ c 2 (PFc lPl aX aY nc rt aT nt lC aW hH eE rR an)) (hP : IP ro μ ρ pl N i) (hE : IE ro μ eE) (hc : CN0 ro μ cd kind x y z m u) (hlu : ltr m u) (hk : kind = 0 ∨ kind = 1 ∨ kind = 2 ∨ kind = 3) : ∃ (μ' : Mem) (n : Nat) (ln : Nat → Nat) (ok : Nat → Bool), ra ρ 9 i = i32 n ∧ n ≤ 2 ∧ (∀ k, k < n → ra ρ 12 (2 * i + k) = i32 (ln k) ∧ 1 ≤ ln k ∧ ltr (ln k) (fun j => ra ρ 13 (10 * (2 * i + k) + j))) ∧ (∀ k, (ok k = true ↔ okN ρ ln i day kind x m u k)) ∧ S_P_leastName (some c) (some (pl i)) (some cd) day μ = some (i64 (lnF ok (rkO ρ ln i) n 0 1152921504606846976), μ') ∧ Ext WR ro μ ro μ' ∧ IE ro μ' eE := by
  obtain ⟨sh, sd, nm, lk, p1, p2, p3, p4⟩ := hP
  obtain ⟨n, na, n1, n2, n3, n4⟩ := p3
  have hln : ∀ k, k < n → ra ρ 12 (2 * i + k) = i32 (ra ρ 12 (2 * i + k)).toNatClampNeg ∧ 1 ≤ (ra ρ 12 (2 * i + k)).toNatClampNeg ∧ ltr (ra ρ 12 (2 * i + k)).toNatClampNeg (fun j => ra ρ 13 (10 * (2 * i + k) + j)) ∧ NA0 ro μ (na k) (ra ρ 10 (2 * i + k)) (ra ρ 11 (2 * i + k)) (ra ρ 12 (2 * i + k)).toNatClampNeg (fun j => ra ρ 13 (10 * (2 * i + k) + j)) := by
    intro k hk
    obtain ⟨len, q1, q2, q3, q4⟩ := n4 k hk
    have h10 := q4.1
    have e := i32_back q2 (by omega)
    rw [e]
    exact ⟨q2, q3, q4, q1⟩
  have hok : ∀ k, (@decide (okN ρ (fun k => (ra ρ 12 (2 * i + k)).toNatClampNeg) i day kind x m u k) (Classical.propDecidable _) = true ↔ okN ρ (fun k => (ra ρ 12 (2 * i + k)).toNatClampNeg) i day kind x m u k) := fun k => @decide_eq_true_iff _ (Classical.propDecidable _)
  obtain ⟨μ', q1, q2, q3, q4, q5⟩ := P_least (ρ := ρ) (i := i) (ln := fun k => (ra ρ 12 (2 * i + k)).toNatClampNeg) (day := day) n2 h1 p1 n3 (fun k hk => ⟨(hln k hk).2.2.2, (hln k hk).2.2.1⟩) hc hlu hk (fun k _ => hok k) n 0 1152921504606846976 fu μ w lo (Ext.rf w) hE (by decide) (by omega) (by show n < 4096; omega)
  exact ⟨μ', n, fun k => (ra ρ 12 (2 * i + k)).toNatClampNeg, _, n1, n2, fun k hk => ⟨(hln k hk).1, (hln k hk).2.1, (hln k hk).2.2.1⟩, hok, q1, q4, q5⟩
theorem WR.m {r : Nat} (h : WR r) : WMt r := .inl h
theorem fits_eq {ro : Nat → Nat} {μ : Mem} {ρ : RS} {pl : Nat → Nat} {N i c lPl aX aY nc rt0 aT nt lC aW hH eE rR an cd rt s q n k a : Nat} (day : Int32) (w : WF μ) (lo : LO μ) (h1 : Is ro μ c 2 (PFc lPl aX aY nc rt0 aT nt lC aW hH eE rR an)) (h2 : IPs ro μ ρ pl N lPl) (hA : IA ρ N) (hE : IE ro μ eE) (hS : IS ro μ rR) (hr : IR ro μ ρ s rt) (hQ : IQ ro μ ρ N (5 * s + q) cd) (hs : s < 5) (hn : ra ρ 23 s = i32 n) (hn5 : n ≤ 5) (hq : q < n) (hi : i < N) (hk : k < 3) (s2 : R_M_shapeOf (i32 i) day ρ = some (i32 (3 * i + k))) (s3 : IZ ro μ ρ (3 * i + k) a) : ∃ (μ' : Mem) (ρ' : RS) (r : Int32), S_P_fits (some c) (some (pl i)) (some a) (some cd) (some rt) day μ = some (r, μ') ∧ (∀ fuel, RB_M_meets_11 (fuel + 1) (i32 i) day (i32 s) 1 (i32 q) ρ = RB_M_meets_11 fuel (i32 i) day (i32 s) r (i32 (q + 1)) ρ') ∧ (r = 0 ∨ r = 1) ∧ Ext WMt ro μ ro μ' ∧ IE ro μ' eE ∧ IS ro μ' rR ∧ scR ρ ρ' := by
  have hN := h2.2.1
  have hP := h2.2.2.2 i hi
  obtain ⟨len, c1, c2, c3, c4⟩ := hQ
  have hc := c1
  obtain ⟨wo, c1, c1'⟩ := c1
  have v0 : gI μ (some cd) 1 0 = some (ra ρ 24 (5 * s + q)) := gI_at c1.1 rfl
  have v1 : gI μ (some cd) 1 1 = some (ra ρ 25 (5 * s + q)) := gI_at c1.1 rfl
  have v2 : gI μ (some cd) 1 2 = some (ra ρ 26 (5 * s + q)) := gI_at c1.1 rfl
  have v3 : gI μ (some cd) 1 3 = some (ra ρ 27 (5 * s + q)) := gI_at c1.1 rfl
  have hh := fun fuel => mt_head (ρ := ρ) (i := i) (day := day) hs hn hn5 hq fuel
  have hname : (ra ρ 24 (5 * s + q) = 0 ∨ ra ρ 24 (5 * s + q) = 1 ∨ ra ρ 24 (5 * s + q) = 2 ∨ ra ρ 24 (5 * s + q) = 3) → ∃ (μ' : Mem) (ρ' : RS) (r : Int32), S_P_fits (some c) (some (pl i)) (some a) (some cd) (some rt) day μ = some (r, μ') ∧ (∀ fuel, RB_M_meets_11 (fuel + 1) (i32 i) day (i32 s) 1 (i32 q) ρ = RB_M_meets_11 fuel (i32 i) day (i32 s) r (i32 (q + 1)) ρ') ∧ (r = 0 ∨ r = 1) ∧ Ext WMt ro μ ro μ' ∧ IE ro μ' eE ∧ IS ro μ' rR ∧ scR ρ ρ' := by
    intro hkd
    obtain ⟨μ', n', ln, ok, l1, l2, l3, l4, l5, l6, l7⟩ := least_eq day w lo h1 hP hE hc c4 hkd
    obtain ⟨ρ', b', p1, p2, p3⟩ := R_hn (ρ0 := ρ) (i := i) (n := n') (cq := 5 * s + q) (ln := ln) (u := fun j => ra ρ 29 (10 * (5 * s + q) + j)) (m := len) (day := day) (ok := ok) (by omega) l2 (by omega) l1 (fun k hk => ⟨(l3 k hk).1, (l3 k hk).2.2⟩) c2 (fun j _ => rfl) c4 hkd (fun k _ => l4 k) n' 0 fu false ρ (scR.rf ρ) (by omega) (by show n' < 4096; omega)
    have hiff := ln_iff ok (rkO ρ ln i) (B := 1152921504606846976) n' 0 (fun j _ hj => rkO_lt (l3 j (by omega)).2.2)
    have hle := ln_le ok (rkO ρ ln i) n' 0 1152921504606846976
    refine ⟨μ', ρ', if b' then 1 else 0, ?_, fun fuel => ?_, ?_, l6.mono (fun r => WR.m), l7, hS.ext l6 (fun q => by unfold WR at q; omega), p2⟩
    · have hs0 : S_P_fits (some c) (some (pl i)) (some a) (some cd) (some rt) day μ = if lg_cmp (i64 (lnF ok (rkO ρ ln i) n' 0 1152921504606846976)) 1152921504606846976 = 0 then B_P_fits_152 0 μ' else B_P_fits_152 1 μ' := by
        have n4 : ¬ ra ρ 24 (5 * s + q) = 4 ∧ ¬ ra ρ 24 (5 * s + q) = 5 ∧ ¬ ra ρ 24 (5 * s + q) = 6 ∧ ¬ ra ρ 24 (5 * s + q) = 7 ∧ ¬ ra ρ 24 (5 * s + q) = 8 := by
          rcases hkd with h | h | h | h <;> rw [h] <;> decide
        unfold S_P_fits
        rw [v0, b1_some, if_neg n4.1, if_neg n4.2.1, if_neg n4.2.2.1, if_neg n4.2.2.2.1, if_neg n4.2.2.2.2, rc_at h1.1, b1_some, l5, b2_some]
      rw [hs0, show (1152921504606846976 : Int64) = i64 1152921504606846976 from rfl]
      by_cases hb : ∃ j, 0 ≤ j ∧ j < 0 + n' ∧ ok j = true
      · rw [if_neg (fun z => (hiff.mp ((i64_eq (b := 1152921504606846976) (by omega) (by decide)).mp (lg_zero.mp z))) hb)]
        have : b' = true := p3.mpr (.inr (by obtain ⟨j, a1, a2, a3⟩ := hb; exact ⟨j, a1, by omega, a3⟩))
        rw [this]
        rfl
      · rw [if_pos (lg_zero.mpr (by rw [hiff.mpr hb]))]
        have : ¬ b' = true := fun z => by
          rcases p3.mp z with z | ⟨j, a1, a2, a3⟩
          · cases z
          · exact hb ⟨j, a1, by omega, a3⟩
        rw [Bool.not_eq_true] at this
        rw [this]
        rfl
    · have n4 : ¬ 4 ≤ ra ρ 24 (5 * s + q) := by
        rcases hkd with h | h | h | h <;> rw [h] <;> decide
      rw [hh, if_neg n4]
      unfold R_M_hasName
      rw [show RB_M_hasName_6 fu (i32 i) day (i32 (5 * s + q)) 0 0 ρ = RB_M_hasName_6 fu (i32 i) day (i32 (5 * s + q)) (if false then 1 else 0) (i32 0) ρ from rfl, p1, c2_some]
    · cases b'
      · exact .inl rfl
      · exact .inr rfl
  rcases c3 with ⟨c3, -⟩ | ⟨c3, -⟩ | c3 | ⟨c3, p, hp, ha⟩ | ⟨c3, ha, hb, -⟩ | ⟨c3, ha, hb⟩
  · exact hname (by rcases c3 with h | h | h <;> simp [h])
  · exact hname (by simp [c3])
  · have v4 : gI μ (some (pl i)) 7 1 = some (ra ρ 2 i) := by
      obtain ⟨sh, sd, nm, lk, p1, p2⟩ := hP
      exact gI_at p1.1 rfl
    by_cases he : ra ρ 2 i = ra ρ 25 (5 * s + q)
    · refine ⟨μ, ρ, 1, ?_, fun fuel => ?_, .inr rfl, Ext.rf w, hE, hS, scR.rf ρ⟩
      · unfold S_P_fits B_P_fits_56
        rw [v0, b1_some, if_pos c3, v4, b1_some, v1, b1_some, if_pos he]
        rfl
      · rw [hh, if_pos (by rw [c3]; decide), if_pos c3, rgI_at (by omega) (by decide), b1_some, if_pos he]
    · refine ⟨μ, ρ, 0, ?_, fun fuel => ?_, .inl rfl, Ext.rf w, hE, hS, scR.rf ρ⟩
      · unfold S_P_fits B_P_fits_56
        rw [v0, b1_some, if_pos c3, v4, b1_some, v1, b1_some, if_neg he]
        rfl
      · rw [hh, if_pos (by rw [c3]; decide), if_pos c3, rgI_at (by omega) (by decide), b1_some, if_neg he]
  · rcases c3 with c3 | c3
    · obtain ⟨r, r1, r2, r3⟩ := inside_eq (i := i) (p := p) day h1 h2 hi hp hk s2 s3
      refine ⟨μ, ρ, r, ?_, fun fuel => ?_, r3, Ext.rf w, hE, hS, scR.rf ρ⟩
      · unfold S_P_fits
        rw [v0, b1_some, if_neg (by rw [c3]; decide), if_pos c3, v1, b1_some, rc_at h1.1, b1_some, ha, r1, b1_some]
        exact gdM r3 μ
      · rw [hh, if_pos (by rw [c3]; decide), if_neg (by rw [c3]; decide), if_pos c3, ha, r2, b1_some]
    · obtain ⟨r, r1, r2, r3⟩ := below_eq (id := ra ρ 25 (5 * s + q)) (day := day) h2 hA hi
      refine ⟨μ, ρ, r, ?_, fun fuel => ?_, r2, Ext.rf w, hE, hS, scR.rf ρ⟩
      · unfold S_P_fits
        rw [v0, b1_some, if_neg (by rw [c3]; decide), if_neg (by rw [c3]; decide), if_pos c3, v1, b1_some, r1, b1_some]
        exact gdM r2 μ
      · rw [hh, if_pos (by rw [c3]; decide), if_neg (by rw [c3]; decide), if_neg (by rw [c3]; decide), if_pos c3]
        exact r3 (fun r => RB_M_meets_11 fuel (i32 i) day (i32 s) r (i32 (q + 1)) ρ)
  · obtain ⟨m, z1, z2, z3, z4, z5, z6⟩ := s3
    obtain ⟨fs, hcell⟩ := z4.co.cell
    have q1 := Co_squareTo_eq z4.co (ra ρ 25 (5 * s + q)) (ra ρ 26 (5 * s + q))
    have q2 := R_sq0 (ρ := ρ) (s := 3 * i + k) (by omega) z1 z2 z3 (fun j _ => rfl) (fun j _ => rfl) z5 ha hb
    generalize sqm (fun j => ra ρ 7 (8 * (3 * i + k) + j)) (fun j => ra ρ 8 (8 * (3 * i + k) + j)) (ra ρ 25 (5 * s + q)) (ra ρ 26 (5 * s + q)) m 0 1073741824 = S at q1 q2
    have q3 : R_M_square (i32 i) day (ra ρ 25 (5 * s + q)) (ra ρ 26 (5 * s + q)) ρ = some S := by
      unfold R_M_square
      rw [s2, b1_some]
      exact q2
    have r26 : rgI ρ 26 25 (i32 (5 * s + q)) = some (ra ρ 26 (5 * s + q)) := rgI_at (by omega) (by decide)
    have r27 : rgI ρ 27 25 (i32 (5 * s + q)) = some (ra ρ 27 (5 * s + q)) := rgI_at (by omega) (by decide)
    by_cases he : ra ρ 27 (5 * s + q) * ra ρ 27 (5 * s + q) < S
    · refine ⟨μ, ρ, 0, ?_, fun fuel => ?_, .inl rfl, Ext.rf w, hE, hS, scR.rf ρ⟩
      · unfold S_P_fits B_P_fits_109
        rw [v0, b1_some, if_neg (by rw [c3]; decide), if_neg (by rw [c3]; decide), if_neg (by rw [c3]; decide), if_pos c3, v1, b1_some, v2, b1_some, rc_at hcell, b1_some, q1, b1_some, v3, b1_some, b1_some, if_pos he]
        rfl
      · rw [hh, if_pos (by rw [c3]; decide), if_neg (by rw [c3]; decide), if_neg (by rw [c3]; decide), if_neg (by rw [c3]; decide), if_pos c3, r26, b1_some, q3, b1_some, r27, b1_some, b1_some, if_pos he]
    · refine ⟨μ, ρ, 1, ?_, fun fuel => ?_, .inr rfl, Ext.rf w, hE, hS, scR.rf ρ⟩
      · unfold S_P_fits B_P_fits_109
        rw [v0, b1_some, if_neg (by rw [c3]; decide), if_neg (by rw [c3]; decide), if_neg (by rw [c3]; decide), if_pos c3, v1, b1_some, v2, b1_some, rc_at hcell, b1_some, q1, b1_some, v3, b1_some, b1_some, if_neg he]
        rfl
      · rw [hh, if_pos (by rw [c3]; decide), if_neg (by rw [c3]; decide), if_neg (by rw [c3]; decide), if_neg (by rw [c3]; decide), if_pos c3, r26, b1_some, q3, b1_some, r27, b1_some, b1_some, if_neg he]
  · have hD : ra ρ 25 (5 * s + q) = i32 (ra ρ 25 (5 * s + q)).toInt.toNat := i32_of ha
    obtain ⟨μ', ρ', r, a1, a2, a3, a4, a5, a6, a7, a8⟩ := along_eq (day := day) (D := (ra ρ 25 (5 * s + q)).toInt.toNat) w lo hs (show 3 * i + k < 90 by omega) (by omega) hr s3 hS s2
    have hrR := hS
    obtain ⟨y1, y2, y3, y4, y5, y6, hrR⟩ := hrR
    refine ⟨μ', ρ', r, ?_, fun fuel => ?_, a4, a5.mono (fun r h => .inr h), hE.ext a5 (by decide) (fun i _ => by omega), a6, a8⟩
    · have h1' := h1.ext a5 (by decide)
      have c1' := c1.ext a5 (by decide)
      unfold S_P_fits
      rw [v0, b1_some, if_neg (by rw [c3]; decide), if_neg (by rw [c3]; decide), if_neg (by rw [c3]; decide), if_neg (by rw [c3]; decide), if_pos c3, gR_at h1.1 (k := 11) rfl, b1_some, rc_at hrR.1, b1_some, a1, b2_some, gR_at h1'.1 (k := 11) rfl, b1_some, gI_at c1'.1 (k := 1) rfl, b1_some, a7, b1_some, hD, a2, b1_some]
      exact gdM a4 μ'
    · rw [hh, if_pos (by rw [c3]; decide), if_neg (by rw [c3]; decide), if_neg (by rw [c3]; decide), if_neg (by rw [c3]; decide), if_neg (by rw [c3]; decide), hD, a3, c2_some]
