/-! the reference's nearest -/
def scN (ρ0 ρ : RS) : Prop := (∀ k, k ≠ 49 → ri ρ k = ri ρ0 k) ∧ ra ρ = ra ρ0 ∧ rL ρ = rL ρ0
def nrC (P Q A : Nat → Nat → Nat) (L : Nat → Nat) (o : Option (Nat × Nat)) (ρ : RS) : Prop := match o with
  | none => ri ρ 49 = -1
  | some c => ri ρ 49 = i32 c.1 ∧ rl ρ 45 = i64 (P c.1 c.2) ∧ rl ρ 46 = i64 (Q c.1 c.2) ∧ rl ρ 47 = i64 (A c.1 c.2) ∧ rl ρ 48 = i64 (L c.1)
theorem R_isNearer_eq {ρ : RS} {P Q A : Nat → Nat → Nat} {L : Nat → Nat} {V : Nat → Nat → Prop} {o : Option (Nat × Nat)} {i j : Nat} (hQ : ∀ i j, 0 < Q i j) (h1 : rl ρ 41 = i64 (P i j)) (h2 : rl ρ 42 = i64 (Q i j)) (h3 : rl ρ 43 = i64 (A i j)) (h4 : rl ρ 44 = i64 (L i)) (hn : nrC P Q A L o ρ) (hB : isB P Q A o V) (hV : ∀ a b, V a b → a < 8 ∧ P a b < 2 ^ 62 ∧ Q a b ≤ 33538050 ∧ A a b < 2 ^ 31 ∧ 0 < L a ∧ L a < 2 ^ 31) (hi : i < 8) (hP : P i j < 2 ^ 62) (hQb : Q i j ≤ 33538050) (hA : A i j < 2 ^ 31) (hL0 : 0 < L i) (hL : L i < 2 ^ 31) : (o = none ∧ R_M_isNearer (i32 i) ρ = some 1) ∨ (∃ c, o = some c ∧ ((cLt P Q A i j c.1 c.2 ∧ R_M_isNearer (i32 i) ρ = some 1) ∨ (¬ cLt P Q A i j c.1 c.2 ∧ R_M_isNearer (i32 i) ρ = some 0))) := by
  unfold R_M_isNearer
  cases o with
  | none =>
    refine .inl ⟨rfl, ?_⟩
    have hn : ri ρ 49 = -1 := hn
    rw [if_pos hn]
    exact gd1
  | some c =>
    obtain ⟨i0, j0⟩ := c
    refine .inr ⟨_, rfl, ?_⟩
    obtain ⟨n1, n2, n3, n4, n5⟩ := hn
    obtain ⟨v1, v2, v3, v4, v5, v6⟩ := hV i0 j0 hB.1
    dsimp only at n1 n2 n3 n4 n5
    have z1 := hQ i j
    have z2 := hQ i0 j0
    rw [n1, if_neg (plNo_neg (by omega)), h1, h2, n2, n3, cf_eq (by omega) (by omega) z1 z2 (by omega) (by omega), b1_some]
    unfold RB_M_isNearer_41 RB_M_isNearer_65 RB_M_isNearer_74
    rw [gd0, gd1, h3, h4, n4, n5, cf_eq (by omega) (by omega) hL0 v5 (by omega) (by omega)]
    unfold cLt
    dsimp only
    by_cases e1 : P i j * Q i0 j0 = P i0 j0 * Q i j
    · rw [show cfV (P i j) (Q i j) (P i0 j0) (Q i0 j0) 1 = 0 from if_pos e1, if_pos rfl, b0_eq]
      have hs : (i32 i - i32 i0).toInt = (i : Int) - i0 := by
        rw [sub_int (by rw [i32_int (by omega), i32_int (by omega)]; omega) (by rw [i32_int (by omega), i32_int (by omega)]; omega), i32_int (by omega), i32_int (by omega)]
      by_cases e2 : i = i0
      · subst e2
        rw [if_pos (by rw [← Int32.toInt_inj, hs]; simp), b1_some]
        unfold cfV
        by_cases e3 : A i j = A i j0
        · rw [if_pos (show A i j * L i = A i j0 * L i by rw [e3]), if_pos (by decide)]
          exact .inr ⟨by omega, rfl⟩
        · have e4 : ¬ A i j * L i = A i j0 * L i := fun q => e3 (Nat.eq_of_mul_eq_mul_right hL0 q)
          rw [if_neg e4]
          by_cases e5 : A i j < A i j0
          · have := Nat.mul_lt_mul_of_pos_right e5 hL0
            rw [if_neg (show ¬ A i j0 * L i < A i j * L i by omega), if_neg (by decide)]
            exact .inl ⟨.inr ⟨e1, .inr ⟨rfl, e5⟩⟩, rfl⟩
          · have := Nat.mul_lt_mul_of_pos_right (show A i j0 < A i j by omega) hL0
            rw [if_pos this, if_pos (by decide)]
            exact .inr ⟨by omega, rfl⟩
      · rw [if_neg (fun q => by rw [← Int32.toInt_inj, hs, show (0 : Int32).toInt = 0 from rfl] at q; omega)]
        by_cases e3 : i < i0
        · rw [if_neg (fun q => by rw [Int32.le_iff_toInt_le, hs, show (0 : Int32).toInt = 0 from rfl] at q; omega)]
          exact .inl ⟨.inr ⟨e1, .inl e3⟩, rfl⟩
        · rw [if_pos (by rw [Int32.le_iff_toInt_le, hs, show (0 : Int32).toInt = 0 from rfl]; omega)]
          exact .inr ⟨by omega, rfl⟩
    · by_cases e2 : P i0 j0 * Q i j < P i j * Q i0 j0
      · rw [show cfV (P i j) (Q i j) (P i0 j0) (Q i0 j0) 1 = 1 from by unfold cfV; rw [if_neg e1, if_pos e2], if_neg (by decide), if_neg (by decide), if_pos (by decide)]
        exact .inr ⟨by omega, rfl⟩
      · rw [show cfV (P i j) (Q i j) (P i0 j0) (Q i0 j0) 1 = -1 from by unfold cfV; rw [if_neg e1, if_neg e2], if_neg (by decide), if_neg (by decide), if_neg (by decide)]
        exact .inl ⟨by omega, rfl⟩
theorem Rn_in {ρ0 : RS} {s t n m j : Nat} {X Y U V : Nat → Int32} (k16 : Int32 → Int32 → Int32 → RS → Option (Unit × RS)) (hs : s < 5) (ht : t < 90) (hn : ra ρ0 30 s = i32 n) (hX : X = fun k => ra ρ0 31 (8 * s + k)) (hY : Y = fun k => ra ρ0 32 (8 * s + k)) (hU : U = fun k => ra ρ0 7 (8 * t + k)) (hV : V = fun k => ra ρ0 8 (8 * t + k)) (hB : ∀ k, k < n → inB (X k) ∧ inB (Y k)) (hB2 : ∀ k, k < m → inB (U k) ∧ inB (V k)) (hj : j < m) (h8 : n ≤ 8) (hm8 : m ≤ 8) (M : Nat) : ∀ (i fuel : Nat) (ρ : RS) (o : Option (Nat × Nat)), scN ρ0 ρ → nrC (cP X Y U V) (cQ X Y U V) (cA X Y U V) (cL X Y) o ρ → isB (cP X Y U V) (cQ X Y U V) (cA X Y U V) o (vRf n m i j) → i < 9 → n ≤ i + 1 + M → M < fuel → ∃ (ρ' : RS) (o' : Option (Nat × Nat)), RB_M_nearest_31 k16 fuel (i32 s) (i32 t) (i32 j) (i32 i) ρ = k16 (i32 s) (i32 t) (i32 (j + 1)) ρ' ∧ scN ρ0 ρ' ∧ nrC (cP X Y U V) (cQ X Y U V) (cA X Y U V) (cL X Y) o' ρ' ∧ isB (cP X Y U V) (cQ X Y U V) (cA X Y U V) o' (vRf n m 0 (j + 1)) := by
  have done : ∀ (i fuel : Nat) (ρ : RS) (o : Option (Nat × Nat)), scN ρ0 ρ → nrC (cP X Y U V) (cQ X Y U V) (cA X Y U V) (cL X Y) o ρ → isB (cP X Y U V) (cQ X Y U V) (cA X Y U V) o (vRf n m i j) → i < 9 → n ≤ i + 1 → ∃ (ρ' : RS) (o' : Option (Nat × Nat)), RB_M_nearest_31 k16 (fuel + 1) (i32 s) (i32 t) (i32 j) (i32 i) ρ = k16 (i32 s) (i32 t) (i32 (j + 1)) ρ' ∧ scN ρ0 ρ' ∧ nrC (cP X Y U V) (cQ X Y U V) (cA X Y U V) (cL X Y) o' ρ' ∧ isB (cP X Y U V) (cQ X Y U V) (cA X Y U V) o' (vRf n m 0 (j + 1)) := by
    intro i fuel ρ o sc nr hb hi9 hle
    refine ⟨ρ, o, ?_, sc, nr, hb.iff (fun a b => by unfold vRf; omega)⟩
    show b1 (rgI ρ 30 5 (i32 s)) (fun x40 => if x40 ≤ i32 i + 1 then k16 (i32 s) (i32 t) (i32 j + 1) ρ else _) = _
    rw [rgI_at hs (by decide), sc.2.1, hn, b1_some, i32_succ, i32_succ, if_pos ((i32_le (by omega) (by omega)).mpr (by omega))]
  induction M with
  | zero =>
    intro i fuel ρ o sc nr hb hi9 hle hf
    cases fuel with
    | zero => omega
    | succ fuel => exact done i fuel ρ o sc nr hb hi9 (by omega)
  | succ M ih =>
    intro i fuel ρ o sc nr hb hi9 hle hf
    cases fuel with
    | zero => omega
    | succ fuel =>
      by_cases hi : i + 1 < n
      · obtain ⟨bd1, bd2, bd3, bd4, bd5, bd6⟩ := c_bd hB hB2 hi hj
        obtain ⟨ρ1, m1, m2, m3, m4, m5, m6⟩ := R_measure_eq (hB i (by omega)).1 (hB i (by omega)).2 (hB (i + 1) hi).1 (hB (i + 1) hi).2 (hB2 j hj).1 (hB2 j hj).2 ρ
        have sc1 : scN ρ0 ρ1 := ⟨fun k hk => by rw [m6.2.1]; exact sc.1 k hk, m6.2.2.1.trans sc.2.1, m6.2.2.2.trans sc.2.2⟩
        have nr1 : nrC (cP X Y U V) (cQ X Y U V) (cA X Y U V) (cL X Y) o ρ1 := by
          cases o with
          | none => exact (congrFun m6.2.1 49).trans nr
          | some c =>
            obtain ⟨q1, q2, q3, q4, q5⟩ := nr
            exact ⟨(congrFun m6.2.1 49).trans q1, (m6.1 45 (by decide) (by decide) (by decide) (by decide)).trans q2, (m6.1 46 (by decide) (by decide) (by decide) (by decide)).trans q3, (m6.1 47 (by decide) (by decide) (by decide) (by decide)).trans q4, (m6.1 48 (by decide) (by decide) (by decide) (by decide)).trans q5⟩
        have expand : RB_M_nearest_31 k16 (fuel + 1) (i32 s) (i32 t) (i32 j) (i32 i) ρ = b1 (R_M_isNearer (i32 i) ρ1) (fun x118 => if x118 = 0 then RB_M_nearest_31 k16 fuel (i32 s) (i32 t) (i32 j) (i32 (i + 1)) ρ1 else RB_M_nearest_31 k16 fuel (i32 s) (i32 t) (i32 j) (i32 (i + 1)) (rpL (rpL (rpL (rpL (rpI ρ1 49 (i32 i)) 45 (rl ρ1 41)) 46 (rl ρ1 42)) 47 (rl ρ1 43)) 48 (rl ρ1 44))) := by
          show b1 (rgI ρ 30 5 (i32 s)) (fun x40 => if x40 ≤ i32 i + 1 then _ else b0 ((8 * i32 s) + i32 i) (fun x51 => b1 (rgI ρ 31 40 x51) (fun x60 => b1 (rgI ρ 32 40 x51) (fun x67 => b1 (rgI ρ 31 40 (x51 + 1)) (fun x76 => b1 (rgI ρ 32 40 (x51 + 1)) (fun x85 => b1 (rgI ρ 7 720 ((8 * i32 t) + i32 j)) (fun x98 => b1 (rgI ρ 8 720 ((8 * i32 t) + i32 j)) (fun x111 => c2 (R_M_measure x60 x67 x76 x85 x98 x111 ρ) (fun x112 ρ112 => b1 (R_M_isNearer (i32 i) ρ112) (fun x118 => if x118 = 0 then RB_M_nearest_31 k16 fuel (i32 s) (i32 t) (i32 j) (i32 i + 1) ρ112 else RB_M_nearest_31 k16 fuel (i32 s) (i32 t) (i32 j) (i32 i + 1) (rpL (rpL (rpL (rpL (rpI ρ112 49 (i32 i)) 45 (rl ρ112 41)) 46 (rl ρ112 42)) 47 (rl ρ112 43)) 48 (rl ρ112 44)))))))))))) = _
          rw [rgI_at hs (by decide), sc.2.1, hn, b1_some, i32_succ, if_neg (fun q => by have := (i32_le (by omega) (by omega)).mp q; omega), b0_eq, i32_8, i32_8, i32_succ, rgI_at (by omega) (by decide), b1_some, rgI_at (by omega) (by decide), b1_some, rgI_at (by omega) (by decide), b1_some, rgI_at (by omega) (by decide), b1_some, rgI_at (by omega) (by decide), b1_some, rgI_at (by omega) (by decide), b1_some, sc.2.1]
          subst hX hY hU hV
          rw [show ra ρ0 31 (8 * s + i + 1) = (fun k => ra ρ0 31 (8 * s + k)) (i + 1) from rfl, show ra ρ0 32 (8 * s + i + 1) = (fun k => ra ρ0 32 (8 * s + k)) (i + 1) from rfl]
          rw [m1, c2_some]
        rw [expand]
        rcases R_isNearer_eq (P := cP X Y U V) (Q := cQ X Y U V) (A := cA X Y U V) (L := cL X Y) (i := i) (j := j) (cQ_pos X Y U V) m2 m3 m4 m5 nr1 hb (fun a b q => by
          obtain ⟨q1, q2, q3⟩ := q
          obtain ⟨c1, c2, c3, c4, c5, c6⟩ := c_bd hB hB2 q1 q2
          omega) (by omega) (by omega) bd2 (by omega) bd4 (by omega) with ⟨rfl, e1⟩ | ⟨c, rfl, ⟨e0, e1⟩ | ⟨e0, e1⟩⟩
        · rw [e1, b1_some, if_neg (by decide)]
          refine ih (i + 1) fuel _ (some (i, j)) ⟨fun k hk => ?_, sc1.2.1, sc1.2.2⟩ ⟨rfl, m2, m3, m4, m5⟩ ((hb.first i j).iff (fun a b => by unfold vRf; omega)) (by omega) (by omega) (by omega)
          exact (va_up_ne (ri ρ1) (i32 i) hk).trans (sc1.1 k hk)
        · rw [e1, b1_some, if_neg (by decide)]
          refine ih (i + 1) fuel _ (some (i, j)) ⟨fun k hk => ?_, sc1.2.1, sc1.2.2⟩ ⟨rfl, m2, m3, m4, m5⟩ ((hb.take (cQ_pos X Y U V) e0).iff (fun a b => by unfold vRf; omega)) (by omega) (by omega) (by omega)
          exact (va_up_ne (ri ρ1) (i32 i) hk).trans (sc1.1 k hk)
        · rw [e1, b1_some, if_pos rfl]
          exact ih (i + 1) fuel ρ1 (some c) sc1 nr1 ((hb.leave e0).iff (fun a b => by unfold vRf; omega)) (by omega) (by omega) (by omega)
      · exact done i fuel ρ o sc nr hb hi9 (by omega)
theorem Rn_out {ρ0 : RS} {s t n m : Nat} {X Y U V : Nat → Int32} (hs : s < 5) (ht : t < 90) (hn : ra ρ0 30 s = i32 n) (hm : ra ρ0 6 t = i32 m) (hX : X = fun k => ra ρ0 31 (8 * s + k)) (hY : Y = fun k => ra ρ0 32 (8 * s + k)) (hU : U = fun k => ra ρ0 7 (8 * t + k)) (hV : V = fun k => ra ρ0 8 (8 * t + k)) (hB : ∀ k, k < n → inB (X k) ∧ inB (Y k)) (hB2 : ∀ k, k < m → inB (U k) ∧ inB (V k)) (h8 : n ≤ 8) (hm8 : m ≤ 8) (M : Nat) : ∀ (j fuel : Nat) (ρ : RS) (o : Option (Nat × Nat)), scN ρ0 ρ → nrC (cP X Y U V) (cQ X Y U V) (cA X Y U V) (cL X Y) o ρ → isB (cP X Y U V) (cQ X Y U V) (cA X Y U V) o (vRf n m 0 j) → j + M = m → M < fuel → ∃ (ρ' : RS) (o' : Option (Nat × Nat)), RB_M_nearest_16 fuel (i32 s) (i32 t) (i32 j) ρ = some ((), ρ') ∧ scN ρ0 ρ' ∧ nrC (cP X Y U V) (cQ X Y U V) (cA X Y U V) (cL X Y) o' ρ' ∧ isB (cP X Y U V) (cQ X Y U V) (cA X Y U V) o' (fun a b => a + 1 < n ∧ b < m) := by
  induction M with
  | zero =>
    intro j fuel ρ o sc nr hb hj hf
    cases fuel with
    | zero => omega
    | succ fuel =>
      refine ⟨ρ, o, ?_, sc, nr, hb.iff (fun a b => by unfold vRf; omega)⟩
      show b1 (rgI ρ 6 90 (i32 t)) (fun x24 => if x24 ≤ i32 j then some ((), ρ) else _) = _
      rw [rgI_at ht (by decide), sc.2.1, hm, b1_some, if_pos ((i32_le (by omega) (by omega)).mpr (by omega))]
  | succ M ih =>
    intro j fuel ρ o sc nr hb hj hf
    cases fuel with
    | zero => omega
    | succ fuel =>
      obtain ⟨ρ1, o1, t1, t2, t3, t4⟩ := Rn_in (fun v3 v4 v5 ρ => RB_M_nearest_16 fuel v3 v4 v5 ρ) hs ht hn hX hY hU hV hB hB2 (show j < m by omega) h8 hm8 8 0 fu ρ o sc nr hb (by omega) (by omega) (by decide)
      obtain ⟨ρ', o', r1, r2⟩ := ih (j + 1) fuel ρ1 o1 t2 t3 t4 (by omega) (by omega)
      refine ⟨ρ', o', ?_, r2⟩
      show b1 (rgI ρ 6 90 (i32 t)) (fun x24 => if x24 ≤ i32 j then _ else RB_M_nearest_31 (fun v3 v4 v5 ρ => RB_M_nearest_16 fuel v3 v4 v5 ρ) fu (i32 s) (i32 t) (i32 j) (i32 0) ρ) = _
      rw [rgI_at ht (by decide), sc.2.1, hm, b1_some, if_neg (fun q => by have := (i32_le (by omega) (by omega)).mp q; omega), t1, r1]
theorem R_nearest_eq {ρ : RS} {s t n m : Nat} {id day : Int32} (hs : s < 5) (ht : t < 90) (hsh : R_M_shapeOf id day ρ = some (i32 t)) (hn : ra ρ 30 s = i32 n) (hm : ra ρ 6 t = i32 m) (hB : ∀ k, k < n → inB (ra ρ 31 (8 * s + k)) ∧ inB (ra ρ 32 (8 * s + k))) (hB2 : ∀ k, k < m → inB (ra ρ 7 (8 * t + k)) ∧ inB (ra ρ 8 (8 * t + k))) (h8 : n ≤ 8) (hm8 : m ≤ 8) : ∃ (ρ' : RS) (o' : Option (Nat × Nat)), R_M_nearest id day (i32 s) ρ = some ((), ρ') ∧ scN ρ ρ' ∧ nrC (cP (fun k => ra ρ 31 (8 * s + k)) (fun k => ra ρ 32 (8 * s + k)) (fun k => ra ρ 7 (8 * t + k)) (fun k => ra ρ 8 (8 * t + k))) (cQ (fun k => ra ρ 31 (8 * s + k)) (fun k => ra ρ 32 (8 * s + k)) (fun k => ra ρ 7 (8 * t + k)) (fun k => ra ρ 8 (8 * t + k))) (cA (fun k => ra ρ 31 (8 * s + k)) (fun k => ra ρ 32 (8 * s + k)) (fun k => ra ρ 7 (8 * t + k)) (fun k => ra ρ 8 (8 * t + k))) (cL (fun k => ra ρ 31 (8 * s + k)) (fun k => ra ρ 32 (8 * s + k))) o' ρ' ∧ isB (cP (fun k => ra ρ 31 (8 * s + k)) (fun k => ra ρ 32 (8 * s + k)) (fun k => ra ρ 7 (8 * t + k)) (fun k => ra ρ 8 (8 * t + k))) (cQ (fun k => ra ρ 31 (8 * s + k)) (fun k => ra ρ 32 (8 * s + k)) (fun k => ra ρ 7 (8 * t + k)) (fun k => ra ρ 8 (8 * t + k))) (cA (fun k => ra ρ 31 (8 * s + k)) (fun k => ra ρ 32 (8 * s + k)) (fun k => ra ρ 7 (8 * t + k)) (fun k => ra ρ 8 (8 * t + k))) o' (fun a b => a + 1 < n ∧ b < m) := by
  obtain ⟨ρ', o', r1, r2⟩ := Rn_out (ρ0 := ρ) hs ht hn hm rfl rfl rfl rfl hB hB2 h8 hm8 m 0 fu (rpI ρ 49 (-1)) none ⟨fun k hk => va_up_ne _ _ hk, rfl, rfl⟩ rfl (fun a b q => by unfold vRf at q; omega) (by omega) (by show m < 4096; omega)
  refine ⟨ρ', o', ?_, r2⟩
  unfold R_M_nearest
  rw [hsh, b1_some, b0_eq]
  exact r1
