/-! does a name fit a condition: on both sides -/
def scR (ρ ρ' : RS) : Prop := (∀ k, k ≠ 38 → k ≠ 49 → ri ρ' k = ri ρ k) ∧ (∀ j, j ≠ 39 → j ≠ 40 → ra ρ' j = ra ρ j) ∧ rL ρ' = rL ρ
theorem scR.rf (ρ : RS) : scR ρ ρ := ⟨fun _ _ _ => rfl, fun _ _ _ => rfl, rfl⟩
theorem scR.tr {a b c : RS} (h : scR a b) (k : scR b c) : scR a c := ⟨fun q h1 h2 => (k.1 q h1 h2).trans (h.1 q h1 h2), fun q h1 h2 => (k.2.1 q h1 h2).trans (h.2.1 q h1 h2), k.2.2.trans h.2.2⟩
theorem scR.fq (ρ : RS) (n : Nat) (w : Nat → Int32) : scR ρ (fQ ρ n w) := ⟨fun q h1 _ => va_up_ne _ _ h1, fun q h1 _ => va_up_ne _ _ h1, rfl⟩
theorem scR.t40 (ρ : RS) (g : Nat → Int32) : scR ρ (rset ρ 40 g) := ⟨fun _ _ _ => rfl, fun q _ h2 => va_up_ne _ _ h2, rfl⟩
theorem lex_eq (D E : Nat → Nat) (m : Nat) : ∀ k, (lexLt D E m k = false ∧ lexLt E D m k = false) ↔ ∀ j, k ≤ j → j < k + m → D j = E j := by
  induction m with
  | zero => intro k; exact ⟨fun _ j h1 h2 => by omega, fun _ => ⟨rfl, rfl⟩⟩
  | succ m ih =>
    intro k
    unfold lexLt
    by_cases h : D k = E k
    · have e1 : ¬ D k < E k := by omega
      have e2 : ¬ E k < D k := by omega
      simp only [e1, e2, h, if_false, Nat.lt_irrefl]
      rw [show (∀ j, k ≤ j → j < k + (m + 1) → D j = E j) ↔ (∀ j, k + 1 ≤ j → j < k + 1 + m → D j = E j) from ⟨fun q j h1 h2 => q j (by omega) (by omega), fun q j h1 h2 => by
        by_cases hj : j = k
        · rw [hj, h]
        · exact q j (by omega) (by omega)⟩]
      simpa using ih (k + 1)
    · refine ⟨fun q => ?_, fun q => absurd (q k (Nat.le_refl _) (by omega)) h⟩
      exfalso
      rcases Nat.lt_or_ge (D k) (E k) with h1 | h1
      · have := q.1
        rw [if_neg h] at this
        simp [h1] at this
      · have h2 : E k < D k := by omega
        have := q.2
        rw [if_neg (fun q => h q.symm)] at this
        simp [h2] at this
theorem eqF_iff (w u : Nat → Int32) (m : Nat) : ∀ k, eqF w u m k = true ↔ ∀ j, k ≤ j → j < k + m → w j = u j := by
  induction m with
  | zero => intro k; exact ⟨fun _ j h1 h2 => by omega, fun _ => rfl⟩
  | succ m ih =>
    intro k
    unfold eqF
    by_cases h : w k = u k
    · simp only [h, if_true]
      rw [ih (k + 1)]
      exact ⟨fun q j h1 h2 => by
        by_cases hj : j = k
        · rw [hj, h]
        · exact q j (by omega) (by omega), fun q j h1 h2 => q j (by omega) (by omega)⟩
    · simp only [h, if_false]
      exact ⟨fun q => (by cases q), fun q => absurd (q k (Nat.le_refl _) (by omega)) h⟩
theorem rk_eq {n m : Nat} {w u : Nat → Int32} (hw : ltr n w) (hu : ltr m u) : rkN n (dgt w) 10 0 0 = rkN m (dgt u) 10 0 0 ↔ (n = m ∧ eqF w u m 0 = true) := by
  have l1 := rk_lex (fun k hk => (hw.d k hk).1) (fun k hk => (hu.d k hk).1) 10 0
  have l2 := rk_lex (fun k hk => (hu.d k hk).1) (fun k hk => (hw.d k hk).1) 10 0
  have hn := hw.1
  have hm := hu.1
  have e1 : rkN n (dgt w) 10 0 0 = rkN m (dgt u) 10 0 0 ↔ (lexLt (dig n (dgt w)) (dig m (dgt u)) 10 0 = false ∧ lexLt (dig m (dgt u)) (dig n (dgt w)) 10 0 = false) := by
    rw [← Bool.not_eq_true, ← Bool.not_eq_true, ← l1, ← l2]
    omega
  rw [e1, lex_eq, eqF_iff]
  constructor
  · intro h
    have hnm : n = m := by
      rcases Nat.lt_trichotomy n m with q | q | q
      · have := h n (by omega) (by omega)
        unfold dig at this
        rw [if_neg (by omega), if_pos q] at this
        omega
      · exact q
      · have := h m (by omega) (by omega)
        unfold dig at this
        rw [if_pos q, if_neg (by omega)] at this
        omega
    refine ⟨hnm, fun j h1 h2 => ?_⟩
    have := h j (by omega) (by omega)
    unfold dig at this
    rw [if_pos (by omega), if_pos (by omega)] at this
    rw [(hw.d j (by omega)).2, (hu.d j (by omega)).2, show dgt w j = dgt u j by omega]
  · rintro ⟨rfl, h⟩ j _ hj
    unfold dig
    by_cases hjn : j < n
    · rw [if_pos hjn, if_pos hjn]
      have := h j (by omega) (by omega)
      unfold dgt
      rw [this]
    · rw [if_neg hjn, if_neg hjn]
theorem i64_eq {a b : Nat} (ha : a < 2 ^ 63) (hb : b < 2 ^ 63) : (Int64.ofNat a = Int64.ofNat b) ↔ a = b := by
  rw [← Int64.toInt_inj, Int64.toInt_ofNat_of_lt ha, Int64.toInt_ofNat_of_lt hb]
  omega
theorem lg_zero {x y : Int64} : (lg_cmp x y = 0) ↔ x = y := by
  unfold lg_cmp
  by_cases h : x > y
  · rw [if_pos h]
    exact ⟨fun q => absurd q (by decide), fun q => by rw [q] at h; exact absurd h (Int64.lt_irrefl)⟩
  · rw [if_neg h]
    by_cases h2 : x = y
    · rw [if_pos h2]; exact ⟨fun _ => h2, fun _ => rfl⟩
    · rw [if_neg h2]; exact ⟨fun q => absurd q (by decide), fun q => absurd q h2⟩
def fitQ (kind a : Int32) (n : Nat) (w : Nat → Int32) (m : Nat) (u : Nat → Int32) : Prop := (kind = 0 ∧ n = m ∧ eqF w u m 0 = true) ∨ (kind = 1 ∧ m ≤ n ∧ eqF w u m 0 = true) ∨ (kind = 2 ∧ ¬ a < i32 (errE w u n m)) ∨ (kind = 3 ∧ sndOf n (dgt w) = sndOf m (dgt u))
/-- the class's wordFits -/
theorem P_wordFits_eq {ro : Nat → Nat} {μ : Mem} {c lPl aX aY nc rt aT nt lC aW hH eE rR an wo cd n m : Nat} {w u : Nat → Int32} {kind x y z : Int32} (wf : WF μ) (lo : LO μ) (h1 : Is ro μ c 2 (PFc lPl aX aY nc rt aT nt lC aW hH eE rR an)) (hE : IE ro μ eE) (hw : WO0 ro μ wo n w) (hlw : ltr n w) (hc : CN0 ro μ cd kind x y z m u) (hlu : ltr m u) (hk : kind = 0 ∨ kind = 1 ∨ kind = 2 ∨ kind = 3) : ∃ (μ' : Mem) (r : Int32), S_P_wordFits (some c) (some wo) (some cd) μ = some (r, μ') ∧ (r = 0 ↔ ¬ fitQ kind x n w m u) ∧ Ext WR ro μ ro μ' ∧ IE ro μ' eE := by
  obtain ⟨wc, c1, c2⟩ := hc
  obtain ⟨al, vn1, vn2, vn3, vn4, vn5⟩ := hw.wo.v
  obtain ⟨bl, vo1, vo2, vo3, vo4, vo5⟩ := c2.wo.v
  have vk : gI μ (some cd) 1 0 = some kind := gI_at c1.1 rfl
  have vw : gR μ (some cd) 1 4 = some (some wc) := gR_at c1.1 rfl
  have g0 : ∀ ν : Mem, gd (¬ okZ 0 = true) (some ((0 : Int32), ν)) = some (0, ν) := fun _ => rfl
  have g1 : ∀ ν : Mem, gd (¬ okZ 1 = true) (some ((1 : Int32), ν)) = some (1, ν) := fun _ => rfl
  unfold S_P_wordFits
  rw [vk, b1_some]
  rcases hk with h | h | h | h <;> subst h
  · have r1 := Wo_rank_eq hw.wo hlw.d
    have r2 := Wo_rank_eq c2.wo hlu.d
    have b1' := rk_lt (fun k hk => (hlw.d k hk).1) 10 0
    have b2' := rk_lt (fun k hk => (hlu.d k hk).1) 10 0
    rw [if_pos rfl, vn3, b1_some, r1, b1_some, vw, b1_some, vo3, b1_some, r2, b1_some]
    unfold B_P_wordFits_56
    have hiff : (lg_cmp (Int64.ofNat (rkN n (dgt w) 10 0 0)) (Int64.ofNat (rkN m (dgt u) 10 0 0)) = 0) ↔ (n = m ∧ eqF w u m 0 = true) := by
      rw [lg_zero, i64_eq (Nat.lt_trans b1' (by decide)) (Nat.lt_trans b2' (by decide)), rk_eq hlw hlu]
    by_cases hq : n = m ∧ eqF w u m 0 = true
    · rw [if_pos (hiff.mpr hq)]
      exact ⟨μ, 1, g1 μ, ⟨fun q => absurd q (by decide), fun q => absurd (.inl ⟨rfl, hq⟩) q⟩, Ext.rf wf, hE⟩
    · rw [if_neg (fun q => hq (hiff.mp q))]
      exact ⟨μ, 0, g0 μ, ⟨fun _ q => by rcases q with ⟨_, q⟩ | ⟨q, _⟩ | ⟨q, _⟩ | ⟨q, _⟩; exact hq q; all_goals exact absurd q (by decide), fun _ => rfl⟩, Ext.rf wf, hE⟩
  · rw [if_neg (by decide), if_pos rfl, vw, b1_some, vn3, b1_some, Wo_beginsWith_eq hw.wo c2.wo, b1_some]
    refine ⟨μ, bI (m ≤ n ∧ eqF w u m 0 = true), ?_, ?_, Ext.rf wf, hE⟩
    · exact gd_no (fun q => q (bI_ok _)) _
    · rw [bI_zero]
      exact ⟨fun h q => by rcases q with ⟨q, _⟩ | ⟨_, q⟩ | ⟨q, _⟩ | ⟨q, _⟩; exact absurd q (by decide); exact h q; all_goals exact absurd q (by decide), fun h q => h (.inr (.inl ⟨rfl, q⟩))⟩
  · obtain ⟨μ', s1, s2, s3⟩ := Ec_count_eq wf lo hE hw c2
    have n0 : ¬ WR 0 := fun q => by unfold WR at q; omega
    have vE : rc μ (some eE) 3 = some () := by
      obtain ⟨lt, fr, rr, z1, _⟩ := hE
      exact rc_at z1.1
    rw [if_neg (by decide), if_neg (by decide), if_pos rfl, gR_at h1.1 (k := 10) rfl, b1_some, vw, b1_some, vE, b1_some, s1, b2_some, gI_at (c1.ext s2 n0).1 (k := 1) rfl, b1_some]
    unfold B_P_wordFits_90
    by_cases hq : x < i32 (errE w u n m)
    · rw [if_pos hq]
      exact ⟨μ', 0, g0 μ', ⟨fun _ q => by rcases q with ⟨q, _⟩ | ⟨q, _⟩ | ⟨_, q⟩ | ⟨q, _⟩; exact absurd q (by decide); exact absurd q (by decide); exact q hq; exact absurd q (by decide), fun _ => rfl⟩, s2, s3⟩
    · rw [if_neg hq]
      exact ⟨μ', 1, g1 μ', ⟨fun q => absurd q (by decide), fun q => absurd (.inr (.inr (.inl ⟨rfl, hq⟩))) q⟩, s2, s3⟩
  · have r1 := Wo_soundCode_eq hw.wo hlw.d
    have r2 := Wo_soundCode_eq c2.wo hlu.d
    rw [if_neg (by decide), if_neg (by decide), if_neg (by decide), if_pos rfl, vn3, b1_some, r1, b1_some, vw, b1_some, vo3, b1_some, r2, b1_some]
    unfold B_P_wordFits_110
    by_cases hq : sndOf n (dgt w) = sndOf m (dgt u)
    · rw [if_pos hq]
      exact ⟨μ, 1, g1 μ, ⟨fun q => absurd q (by decide), fun q => absurd (.inr (.inr (.inr ⟨rfl, hq⟩))) q⟩, Ext.rf wf, hE⟩
    · rw [if_neg hq]
      exact ⟨μ, 0, g0 μ, ⟨fun _ q => by rcases q with ⟨q, _⟩ | ⟨q, _⟩ | ⟨q, _⟩ | ⟨_, q⟩; exact absurd q (by decide); exact absurd q (by decide); exact absurd q (by decide); exact hq q, fun _ => rfl⟩, Ext.rf wf, hE⟩
