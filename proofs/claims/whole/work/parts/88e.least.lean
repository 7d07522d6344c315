/-! the names of a place that fit a condition -/
def lnF (ok : Nat → Bool) (rk : Nat → Nat) : Nat → Nat → Nat → Nat
  | 0, _, acc => acc
  | m + 1, k, acc => lnF ok rk m (k + 1) (if ok k then min acc (rk k) else acc)
theorem i64_min {a b : Nat} (ha : a < 2 ^ 63) (hb : b < 2 ^ 63) (μ : Mem) : S_Ma_min2 (Int64.ofNat a) (Int64.ofNat b) μ = some (Int64.ofNat (min a b)) := by
  have hlt : Int64.ofNat b < Int64.ofNat a ↔ b < a := by
    rw [Int64.lt_iff_toInt_lt, Int64.toInt_ofNat_of_lt ha, Int64.toInt_ofNat_of_lt hb]
    omega
  have hpos : (0 < lg_cmp (Int64.ofNat a) (Int64.ofNat b)) ↔ b < a := by
    rw [← hlt]
    unfold lg_cmp
    by_cases h : Int64.ofNat a > Int64.ofNat b
    · rw [if_pos h]
      exact ⟨fun _ => h, fun _ => by decide⟩
    · rw [if_neg h]
      refine ⟨fun q => ?_, fun q => absurd q h⟩
      split at q <;> exact absurd q (by decide)
  unfold S_Ma_min2 B_Ma_min2_11
  by_cases h : b < a
  · rw [if_pos (hpos.mpr h), Nat.min_eq_right (by omega)]
  · rw [if_neg (fun q => h (hpos.mp q)), Nat.min_eq_left (by omega)]
theorem P_least {ro : Nat → Nat} {μ0 : Mem} {ρ : RS} {c lPl aX aY nc rt aT nt lC aW hH eE rR an pa cd i n m sh sd nm lk : Nat} {na ln : Nat → Nat} {u : Nat → Int32} {kind x y z day num kd rem : Int32} {ok : Nat → Bool} (hn : n ≤ 2) (h1 : Is ro μ0 c 2 (PFc lPl aX aY nc rt aT nt lC aW hH eE rR an)) (hpa : Is ro μ0 pa (100 + 10 * i) (.inr (7, PC7 num kd rem sh sd nm lk))) (hnm : AR ro μ0 nm (100 + 10 * i + 4) n na) (hna : ∀ k, k < n → NA0 ro μ0 (na k) (ra ρ 10 (2 * i + k)) (ra ρ 11 (2 * i + k)) (ln k) (fun j => ra ρ 13 (10 * (2 * i + k) + j)) ∧ ltr (ln k) (fun j => ra ρ 13 (10 * (2 * i + k) + j))) (hc : CN0 ro μ0 cd kind x y z m u) (hlu : ltr m u) (hk : kind = 0 ∨ kind = 1 ∨ kind = 2 ∨ kind = 3) (hok : ∀ k, k < n → (ok k = true ↔ (ra ρ 10 (2 * i + k) ≤ day ∧ day ≤ ra ρ 11 (2 * i + k)) ∧ fitQ kind x (ln k) (fun j => ra ρ 13 (10 * (2 * i + k) + j)) m u)) (M : Nat) : ∀ (k acc fuel : Nat) (μ : Mem), WF μ → LO μ → Ext WR ro μ0 ro μ → IE ro μ eE → acc < 2 ^ 63 → k + M = n → M < fuel → ∃ μ', B_P_leastName_8 fuel (some c) (some pa) (some cd) day (Int64.ofNat acc) (i32 k) μ = some (Int64.ofNat (lnF ok (fun k => rkN (ln k) (dgt (fun j => ra ρ 13 (10 * (2 * i + k) + j))) 10 0 0) M k acc), μ') ∧ WF μ' ∧ LO μ' ∧ Ext WR ro μ0 ro μ' ∧ IE ro μ' eE := by
  have nW : ∀ r, ¬ (20 ≤ r ∧ r < 31) → ¬ WR r := fun r h q => h q
  induction M with
  | zero =>
    intro k acc fuel μ w lo e hE ha hk2 hf
    cases fuel with
    | zero => omega
    | succ fuel =>
      refine ⟨μ, ?_, w, lo, e, hE⟩
      have v1 : gR μ (some pa) 7 5 = some (some nm) := gR_at (hpa.ext e (nW _ (by omega))).1 rfl
      have hl := hnm.ext e (nW _ (by omega)) (nW _ (by omega))
      show b1 (gR μ (some pa) 7 5) (fun x11 => b1 (rc μ x11 0) (fun _ => b1 (S_Al_size x11 μ) (fun x14 => if x14 ≤ i32 k then some (Int64.ofNat acc, μ) else _))) = _
      rw [v1, b1_some, hl.rc, b1_some, hl.size, b1_some, if_pos ((i32_le (by omega) (by omega)).mpr (by omega))]
      rfl
  | succ M ih =>
    intro k acc fuel μ w lo e hE ha hk2 hf
    cases fuel with
    | zero => omega
    | succ fuel =>
      have hkn : k < n := by omega
      have v1 : gR μ (some pa) 7 5 = some (some nm) := gR_at (hpa.ext e (nW _ (by omega))).1 rfl
      have hl := hnm.ext e (nW _ (by omega)) (nW _ (by omega))
      have h1k := h1.ext e (nW _ (by omega))
      have hck := hc.ext e (nW _ (by omega))
      obtain ⟨⟨wo, n1, n2⟩, n3⟩ := hna k hkn
      have n1k := n1.ext e (nW _ (by omega))
      have n2k := n2.ext e (nW _ (by omega))
      have isof := Na_isOf_eq (μ := μ) (a := na k) (wo := wo) (f := ra ρ 10 (2 * i + k)) (t := ra ρ 11 (2 * i + k)) n1k.1 day
      have expand : B_P_leastName_8 (fuel + 1) (some c) (some pa) (some cd) day (Int64.ofNat acc) (i32 k) μ = if bI (ra ρ 10 (2 * i + k) ≤ day ∧ day ≤ ra ρ 11 (2 * i + k)) = 0 then B_P_leastName_8 fuel (some c) (some pa) (some cd) day (Int64.ofNat acc) (i32 (k + 1)) μ else b2 (S_P_wordFits (some c) (some wo) (some cd) μ) (fun x50 m50 => if x50 = 0 then B_P_leastName_8 fuel (some c) (some pa) (some cd) day (Int64.ofNat acc) (i32 (k + 1)) m50 else b1 (gR m50 (some (na k)) 6 0) (fun x60 => b1 (rc m50 x60 10) (fun _ => b1 (S_Wo_rank x60 m50) (fun x63 => b1 (S_Ma_min2 (Int64.ofNat acc) x63 m50) (fun x66 => B_P_leastName_8 fuel (some c) (some pa) (some cd) day x66 (i32 (k + 1)) m50))))) := by
        show b1 (gR μ (some pa) 7 5) (fun x11 => b1 (rc μ x11 0) (fun _ => b1 (S_Al_size x11 μ) (fun x14 => if x14 ≤ i32 k then _ else b1 (gR μ (some pa) 7 5) (fun x21 => b1 (rc μ x21 0) (fun _ => b1 (S_Al_get x21 (i32 k) μ) (fun x26 => b1 (cK μ x26 6) (fun _ => b1 (rc μ x26 6) (fun _ => b1 (S_Na_isOf x26 day μ) (fun x37 => if x37 = 0 then B_P_leastName_8 fuel (some c) (some pa) (some cd) day (Int64.ofNat acc) (i32 k + 1) μ else b1 (gR μ x26 6 0) (fun x46 => b1 (rc μ (some c) 11) (fun _ => b2 (S_P_wordFits (some c) x46 (some cd) μ) (fun x50 m50 => if x50 = 0 then B_P_leastName_8 fuel (some c) (some pa) (some cd) day (Int64.ofNat acc) (i32 k + 1) m50 else b1 (gR m50 x26 6 0) (fun x60 => b1 (rc m50 x60 10) (fun _ => b1 (S_Wo_rank x60 m50) (fun x63 => b1 (S_Ma_min2 (Int64.ofNat acc) x63 m50) (fun x66 => B_P_leastName_8 fuel (some c) (some pa) (some cd) day x66 (i32 k + 1) m50)))))))))))))))) = _
        rw [v1, b1_some, hl.rc, b1_some, hl.size, b1_some, if_neg (fun q => by have := (i32_le (by omega) (by omega)).mp q; omega), b1_some, hl.rc, b1_some, hl.get hkn, b1_some, cK_at n1k.1, b1_some, rc_at n1k.1, b1_some, isof, b1_some, gR_at n1k.1 (k := 0) rfl, b1_some, rc_at h1k.1, b1_some, i32_succ]
      rw [expand]
      unfold lnF
      by_cases ho : ra ρ 10 (2 * i + k) ≤ day ∧ day ≤ ra ρ 11 (2 * i + k)
      · have hbi : ¬ bI (ra ρ 10 (2 * i + k) ≤ day ∧ day ≤ ra ρ 11 (2 * i + k)) = 0 := by rw [bI_pos ho]; decide
        rw [if_neg hbi]
        obtain ⟨μ1, r, f1, f2, f3, f4⟩ := P_wordFits_eq w lo h1k hE n2k n3 hck hlu hk
        rw [f1, b2_some]
        by_cases hr : r = 0
        · have hokf : ¬ ok k = true := fun q => (f2.mp hr) ((hok k hkn).mp q).2
          rw [if_pos hr, if_neg hokf]
          exact ih (k + 1) acc fuel μ1 f3.wf (f3.lo w lo) (e.tr f3) f4 ha (by omega) (by omega)
        · have hokt : ok k = true := (hok k hkn).mpr ⟨ho, Classical.byContradiction (fun q => hr (f2.mpr q))⟩
          have n2m := n2k.ext f3 (nW _ (by omega))
          have rk := Wo_rank_eq n2m.wo n3.d
          have rkb := rk_lt (fun j hj => (n3.d j hj).1) 10 0
          obtain ⟨al, vn1, vn2, vn3, vn4, vn5⟩ := n2m.wo.v
          rw [if_neg hr, if_pos hokt, gR_at (n1k.ext f3 (nW _ (by omega))).1 (k := 0) rfl, b1_some, vn3, b1_some, rk, b1_some, i64_min ha (Nat.lt_trans rkb (by decide)), b1_some]
          exact ih (k + 1) _ fuel μ1 f3.wf (f3.lo w lo) (e.tr f3) f4 (Nat.lt_of_le_of_lt (Nat.min_le_left _ _) ha) (by omega) (by omega)
      · rw [if_pos (bI_neg ho), if_neg (fun q => ho ((hok k hkn).mp q).1)]
        exact ih (k + 1) acc fuel μ w lo e hE ha (by omega) (by omega)
theorem ln_le (ok : Nat → Bool) (rk : Nat → Nat) (m : Nat) : ∀ k acc, lnF ok rk m k acc ≤ acc := by
  induction m with
  | zero => intro k acc; exact Nat.le_refl _
  | succ m ih =>
    intro k acc
    unfold lnF
    split
    · exact Nat.le_trans (ih _ _) (Nat.min_le_left _ _)
    · exact ih _ _
theorem ln_iff (ok : Nat → Bool) (rk : Nat → Nat) {B : Nat} (m : Nat) : ∀ k, (∀ j, k ≤ j → j < k + m → rk j < B) → (lnF ok rk m k B = B ↔ ¬ ∃ j, k ≤ j ∧ j < k + m ∧ ok j = true) := by
  induction m with
  | zero => intro k _; exact ⟨fun _ ⟨j, h1, h2, _⟩ => by omega, fun _ => rfl⟩
  | succ m ih =>
    intro k hB
    unfold lnF
    by_cases h : ok k = true
    · rw [if_pos h]
      refine ⟨fun q => ?_, fun q => absurd ⟨k, Nat.le_refl _, by omega, h⟩ q⟩
      exfalso
      have h1 := ln_le ok rk m (k + 1) (min B (rk k))
      have h2 := hB k (Nat.le_refl _) (by omega)
      omega
    · rw [if_neg h, ih (k + 1) (fun j h1 h2 => hB j (by omega) (by omega))]
      refine not_congr ⟨fun ⟨j, h1, h2, h3⟩ => ⟨j, by omega, by omega, h3⟩, fun ⟨j, h1, h2, h3⟩ => ?_⟩
      by_cases hjk : j = k
      · subst hjk; exact absurd h3 h
      · exact ⟨j, by omega, by omega, h3⟩
