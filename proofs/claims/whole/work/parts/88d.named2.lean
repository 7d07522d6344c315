/-! isNamed -/
theorem fQ_w (ρ : RS) (n : Nat) (w u : Nat → Int32) : rset (fQ ρ n w) 39 u = fQ ρ n u := by
  show (va_up (ri ρ) 38 (i32 n), rl ρ, va_up (va_up (ra ρ) 39 w) 39 u, rL ρ) = (va_up (ri ρ) 38 (i32 n), rl ρ, va_up (ra ρ) 39 u, rL ρ)
  rw [up2]
theorem fQ_n (ρ : RS) (n m : Nat) (w : Nat → Int32) : rpI (fQ ρ n w) 38 (i32 m) = fQ ρ m w := by
  show (va_up (va_up (ri ρ) 38 (i32 n)) 38 (i32 m), rl ρ, va_up (ra ρ) 39 w, rL ρ) = (va_up (ri ρ) 38 (i32 m), rl ρ, va_up (ra ρ) 39 w, rL ρ)
  rw [up2]
theorem fQ_id (ρ : RS) (n : Nat) : rpI ρ 38 (i32 n) = fQ ρ n (ra ρ 39) := by
  show (va_up (ri ρ) 38 (i32 n), rl ρ, ra ρ, rL ρ) = (va_up (ri ρ) 38 (i32 n), rl ρ, va_up (ra ρ) 39 (ra ρ 39), rL ρ)
  have : va_up (ra ρ) 39 (ra ρ 39) = ra ρ := by
    funext q
    unfold va_up
    grind
  rw [this]
theorem R_fn {ρ : RS} {q len : Nat} (hq : q < 60) (hl : len ≤ 10) (m : Nat) : ∀ (k fuel : Nat) (F : Nat → Int32), k + m = len → m < fuel → ∃ F', RB_M_foldName_12 fuel (i32 q) (i32 k) (fQ ρ len F) = some ((), fQ ρ len F') ∧ (∀ j, k ≤ j → j < len → F' j = ra ρ 13 (10 * q + j)) ∧ ∀ j, j < k → F' j = F j := by
  induction m with
  | zero =>
    intro k fuel F hk hf
    cases fuel with
    | zero => omega
    | succ fuel =>
      refine ⟨F, ?_, fun j h1 h2 => by omega, fun j _ => rfl⟩
      show (if ri (fQ ρ len F) 38 ≤ i32 k then some ((), fQ ρ len F) else _) = _
      rw [show ri (fQ ρ len F) 38 = i32 len from rfl, if_pos ((i32_le (by omega) (by omega)).mpr (by omega))]
  | succ m ih =>
    intro k fuel F hk hf
    cases fuel with
    | zero => omega
    | succ fuel =>
      obtain ⟨F', q1, q2, q3⟩ := ih (k + 1) fuel (upd F k (ra ρ 13 (10 * q + k))) (by omega) (by omega)
      refine ⟨F', ?_, fun j h1 h2 => ?_, fun j h1 => ?_⟩
      · show (if ri (fQ ρ len F) 38 ≤ i32 k then _ else b1 (rgI (fQ ρ len F) 13 600 ((10 * i32 q) + i32 k)) (fun x35 => b1 (rsI (fQ ρ len F) 39 10 (i32 k) x35) (fun ρ36 => RB_M_foldName_12 fuel (i32 q) (i32 k + 1) ρ36))) = _
        rw [show ri (fQ ρ len F) 38 = i32 len from rfl, if_neg (fun q => by have := (i32_le (by omega) (by omega)).mp q; omega), i32_10, rgI_at (by omega) (by decide), b1_some, rsI_at (by omega) (by decide), b1_some, show ra (fQ ρ len F) 39 = F from rfl, show ra (fQ ρ len F) 13 = ra ρ 13 from rfl, fQ_w, i32_succ, q1]
      · by_cases hjk : j = k
        · subst hjk
          rw [q3 j (by omega), upd_at]
        · exact q2 j (by omega) h2
      · rw [q3 j (by omega), upd_ne _ _ (by omega)]
theorem R_foldName_eq {ρ : RS} {q len : Nat} (hq : q < 60) (hl : len ≤ 10) (h12 : ra ρ 12 q = i32 len) : ∃ w, R_M_foldName (i32 q) ρ = some ((), fQ ρ len w) ∧ ∀ j, j < len → w j = ra ρ 13 (10 * q + j) := by
  obtain ⟨w, q1, q2, q3⟩ := R_fn (ρ := ρ) (q := q) hq hl len 0 fu (ra ρ 39) (by omega) (by show len < 4096; omega)
  refine ⟨w, ?_, fun j hj => q2 j (by omega) hj⟩
  unfold R_M_foldName
  rw [rgI_at hq (by decide), h12, b1_some, b0_eq, fQ_id, show (0 : Int32) = i32 0 from rfl, q1]
theorem R_n74 {ρ : RS} {cq n m : Nat} {v5 : Int32} (hc : cq < 25) (hm : m ≤ 10) (M : Nat) : ∀ (k fuel : Nat) (F : Nat → Int32), k + M = m → M < fuel → ∃ F', RB_M_isNamed_74 fuel (i32 cq) (i32 m) v5 (i32 k) (fQ ρ m F) = b1 (R_M_soundOf (fQ ρ m F')) (fun x107 => if x107 = v5 then RB_M_isNamed_120 1 (fQ ρ m F') else RB_M_isNamed_120 0 (fQ ρ m F')) ∧ (∀ j, k ≤ j → j < m → F' j = ra ρ 29 (10 * cq + j)) ∧ ∀ j, j < k → F' j = F j := by
  induction M with
  | zero =>
    intro k fuel F hk hf
    cases fuel with
    | zero => omega
    | succ fuel =>
      refine ⟨F, ?_, fun j h1 h2 => by omega, fun j _ => rfl⟩
      show (if i32 m ≤ i32 k then b1 (R_M_soundOf (fQ ρ m F)) (fun x107 => if x107 = v5 then RB_M_isNamed_120 1 (fQ ρ m F) else RB_M_isNamed_120 0 (fQ ρ m F)) else _) = _
      rw [if_pos ((i32_le (by omega) (by omega)).mpr (by omega))]
  | succ M ih =>
    intro k fuel F hk hf
    cases fuel with
    | zero => omega
    | succ fuel =>
      obtain ⟨F', q1, q2, q3⟩ := ih (k + 1) fuel (upd F k (ra ρ 29 (10 * cq + k))) (by omega) (by omega)
      refine ⟨F', ?_, fun j h1 h2 => ?_, fun j h1 => ?_⟩
      · show (if i32 m ≤ i32 k then _ else b1 (rgI (fQ ρ m F) 29 250 ((10 * i32 cq) + i32 k)) (fun x98 => b1 (rsI (fQ ρ m F) 39 10 (i32 k) x98) (fun ρ99 => RB_M_isNamed_74 fuel (i32 cq) (i32 m) v5 (i32 k + 1) ρ99))) = _
        rw [if_neg (fun q => by have := (i32_le (by omega) (by omega)).mp q; omega), i32_10, rgI_at (by omega) (by decide), b1_some, rsI_at (by omega) (by decide), b1_some, show ra (fQ ρ m F) 39 = F from rfl, show ra (fQ ρ m F) 29 = ra ρ 29 from rfl, fQ_w, i32_succ, q1]
      · by_cases hjk : j = k
        · subst hjk
          rw [q3 j (by omega), upd_at]
        · exact q2 j (by omega) h2
      · rw [q3 j (by omega), upd_ne _ _ (by omega)]
theorem R_n161 {ρ : RS} {cq m : Nat} {w u : Nat → Int32} (hc : cq < 25) (hm : m ≤ 10) (hw : ∀ j, j < m → ra ρ 39 j = w j) (hu : ∀ j, j < m → ra ρ 29 (10 * cq + j) = u j) (M : Nat) : ∀ (k fuel : Nat), k + M = m → M < fuel → RB_M_isNamed_161 fuel (i32 cq) (i32 m) 1 (i32 k) ρ = some (bI (eqF w u M k = true), ρ) := by
  have g0 : RB_M_isNamed_208 0 ρ = some (0, ρ) := rfl
  have g1 : RB_M_isNamed_208 1 ρ = some (1, ρ) := rfl
  have hz : ∀ k fuel, RB_M_isNamed_161 (fuel + 1) (i32 cq) (i32 m) 0 (i32 k) ρ = some (0, ρ) := by
    intro k fuel
    show (if i32 m ≤ i32 k then RB_M_isNamed_208 0 ρ else if (0 : Int32) = 0 then RB_M_isNamed_208 0 ρ else _) = _
    rw [g0]
    split
    · rfl
    · rw [if_pos rfl]
  induction M with
  | zero =>
    intro k fuel hk hf
    cases fuel with
    | zero => omega
    | succ fuel =>
      show (if i32 m ≤ i32 k then RB_M_isNamed_208 1 ρ else _) = _
      rw [if_pos ((i32_le (by omega) (by omega)).mpr (by omega)), g1, bI_pos (show eqF w u 0 k = true from rfl)]
  | succ M ih =>
    intro k fuel hk hf
    cases fuel with
    | zero => omega
    | succ fuel =>
      show (if i32 m ≤ i32 k then _ else if (1 : Int32) = 0 then _ else b1 (rgI ρ 39 10 (i32 k)) (fun x179 => b1 (rgI ρ 29 250 ((10 * i32 cq) + i32 k)) (fun x191 => if x179 = x191 then RB_M_isNamed_161 fuel (i32 cq) (i32 m) 1 (i32 k + 1) ρ else RB_M_isNamed_161 fuel (i32 cq) (i32 m) 0 (i32 k + 1) ρ))) = _
      rw [if_neg (fun q => by have := (i32_le (by omega) (by omega)).mp q; omega), if_neg (by decide), rgI_at (by omega) (by decide), b1_some, i32_10, rgI_at (by omega) (by decide), b1_some, hw k (by omega), hu k (by omega), i32_succ]
      by_cases h : w k = u k
      · rw [if_pos h, ih (k + 1) fuel (by omega) (by omega)]
        have : (eqF w u (M + 1) k = true) = (eqF w u M (k + 1) = true) := by show ((if w k = u k then eqF w u M (k + 1) else false) = true) = (eqF w u M (k + 1) = true); rw [if_pos h]
        by_cases h2 : eqF w u M (k + 1) = true
        · rw [bI_pos h2, bI_pos (by rw [this]; exact h2)]
        · rw [bI_neg h2, bI_neg (by rw [this]; exact h2)]
      · cases fuel with
        | zero => omega
        | succ fuel =>
          rw [if_neg h, hz, bI_neg (show ¬ eqF w u (M + 1) k = true from fun q => by have q : (if w k = u k then eqF w u M (k + 1) else false) = true := q; rw [if_neg h] at q; cases q)]
theorem R_isNamed_eq {ρ : RS} {q cq len m : Nat} {w u : Nat → Int32} (hq : q < 60) (hcq : cq < 25) (h12 : ra ρ 12 q = i32 len) (h28 : ra ρ 28 cq = i32 m) (hw : ∀ j, j < len → ra ρ 13 (10 * q + j) = w j) (hu : ∀ j, j < m → ra ρ 29 (10 * cq + j) = u j) (hlw : ltr len w) (hlu : ltr m u) (hk : ra ρ 24 cq = 0 ∨ ra ρ 24 cq = 1 ∨ ra ρ 24 cq = 2 ∨ ra ρ 24 cq = 3) : ∃ (ρ' : RS) (r : Int32), R_M_isNamed (i32 q) (i32 cq) ρ = some (r, ρ') ∧ (r = 0 ↔ ¬ fitQ (ra ρ 24 cq) (ra ρ 25 cq) len w m u) ∧ scR ρ ρ' := by
  have hl := hlw.1
  have hm := hlu.1
  obtain ⟨F, f1, f2⟩ := R_foldName_eq (ρ := ρ) hq hl h12
  have f3 : ∀ j, j < len → F j = w j := fun j hj => (f2 j hj).trans (hw j hj)
  have hstart : R_M_isNamed (i32 q) (i32 cq) ρ = (if ra ρ 24 cq = 2 then c2 (R_M_errorsTo 29 (10 * i32 cq) (i32 m) (fQ ρ len F)) (fun x36 ρ36 => b1 (rgI ρ36 25 25 (i32 cq)) (fun x44 => if x44 < x36 then RB_M_isNamed_53 0 ρ36 else RB_M_isNamed_53 1 ρ36)) else if ra ρ 24 cq = 3 then b1 (R_M_soundOf (fQ ρ len F)) (fun x60 => b0 (rpI (fQ ρ len F) 38 (i32 m)) (fun ρ68 => RB_M_isNamed_74 fu (i32 cq) (i32 m) x60 0 ρ68)) else if ra ρ 24 cq = 0 then (if ri (fQ ρ len F) 38 = i32 m then RB_M_isNamed_156 (i32 cq) (i32 m) 1 (fQ ρ len F) else RB_M_isNamed_156 (i32 cq) (i32 m) 0 (fQ ρ len F)) else if ri (fQ ρ len F) 38 < i32 m then RB_M_isNamed_156 (i32 cq) (i32 m) 0 (fQ ρ len F) else RB_M_isNamed_156 (i32 cq) (i32 m) 1 (fQ ρ len F)) := by
    unfold R_M_isNamed
    rw [rgI_at hcq (by decide), b1_some, rgI_at hcq (by decide), h28, b1_some, f1]
    rfl
  have h38 : ri (fQ ρ len F) 38 = i32 len := rfl
  have z0 : RB_M_isNamed_156 (i32 cq) (i32 m) 0 (fQ ρ len F) = some (0, fQ ρ len F) := by
    show (if i32 m ≤ 0 then RB_M_isNamed_208 0 (fQ ρ len F) else if (0 : Int32) = 0 then RB_M_isNamed_208 0 (fQ ρ len F) else _) = _
    rw [show RB_M_isNamed_208 0 (fQ ρ len F) = some (0, fQ ρ len F) from rfl]
    split
    · rfl
    · rw [if_pos rfl]
  have z1 : m ≤ len → RB_M_isNamed_156 (i32 cq) (i32 m) 1 (fQ ρ len F) = some (bI (eqF w u m 0 = true), fQ ρ len F) := by
    intro hml
    unfold RB_M_isNamed_156
    rw [show (0 : Int32) = i32 0 from rfl]
    exact R_n161 (ρ := fQ ρ len F) hcq hm (fun j hj => f3 j (by omega)) (fun j hj => hu j hj) m 0 fu (by omega) (by show m < 4096; omega)
  rw [hstart]
  rcases hk with h | h | h | h <;> rw [h]
  · rw [if_neg (by decide), if_neg (by decide), if_pos rfl, h38]
    by_cases hlm : len = m
    · rw [if_pos (by rw [hlm]), z1 (by omega)]
      refine ⟨_, _, rfl, ?_, scR.fq _ _ _⟩
      rw [bI_zero]
      exact ⟨fun q1 q => by rcases q with ⟨_, q⟩ | ⟨q, _⟩ | ⟨q, _⟩ | ⟨q, _⟩; exact q1 q.2; all_goals exact absurd q (by decide), fun q1 q => q1 (.inl ⟨rfl, hlm, q⟩)⟩
    · rw [if_neg (fun q => hlm ((i32_inj (by omega) (by omega)).mp q)), z0]
      exact ⟨_, _, rfl, ⟨fun _ q => by rcases q with ⟨_, q⟩ | ⟨q, _⟩ | ⟨q, _⟩ | ⟨q, _⟩; exact hlm q.1; all_goals exact absurd q (by decide), fun _ => rfl⟩, scR.fq _ _ _⟩
  · rw [if_neg (by decide), if_neg (by decide), if_neg (by decide), h38]
    by_cases hlm : len < m
    · rw [if_pos ((i32_lt (by omega) (by omega)).mpr hlm), z0]
      exact ⟨_, _, rfl, ⟨fun _ q => by rcases q with ⟨q, _⟩ | ⟨_, q⟩ | ⟨q, _⟩ | ⟨q, _⟩; exact absurd q (by decide); exact absurd q.1 (by omega); all_goals exact absurd q (by decide), fun _ => rfl⟩, scR.fq _ _ _⟩
    · rw [if_neg (fun q => hlm ((i32_lt (by omega) (by omega)).mp q)), z1 (by omega)]
      refine ⟨_, _, rfl, ?_, scR.fq _ _ _⟩
      rw [bI_zero]
      exact ⟨fun q1 q => by rcases q with ⟨q, _⟩ | ⟨_, q⟩ | ⟨q, _⟩ | ⟨q, _⟩; exact absurd q (by decide); exact q1 q.2; all_goals exact absurd q (by decide), fun q1 q => q1 (.inr (.inl ⟨rfl, by omega, q⟩))⟩
  · have hlen29 : rlen 29 = 250 := rfl
    obtain ⟨g, e1⟩ := R_errorsTo_eq (ρ := fQ ρ len F) (v1 := 29) (at' := 10 * cq) (p := len) (q := m) (w := w) (u := u) (by decide) rfl f3 hu (by rw [hlen29]; omega) (by decide) hl hm
    rw [if_pos rfl, show (10 : Int32) * i32 cq = i32 (10 * cq) from i32_mul 10 _, e1]
    have hstep : c2 (some (i32 (errE w u len m), rset (fQ ρ len F) 40 g)) (fun x36 ρ36 => b1 (rgI ρ36 25 25 (i32 cq)) (fun x44 => if x44 < x36 then RB_M_isNamed_53 0 ρ36 else RB_M_isNamed_53 1 ρ36)) = (if ra ρ 25 cq < i32 (errE w u len m) then RB_M_isNamed_53 0 (rset (fQ ρ len F) 40 g) else RB_M_isNamed_53 1 (rset (fQ ρ len F) 40 g)) := by
      show b1 (rgI (rset (fQ ρ len F) 40 g) 25 25 (i32 cq)) _ = _
      rw [rgI_at hcq (by decide), b1_some]
      rfl
    rw [hstep]
    have hs : scR ρ (rset (fQ ρ len F) 40 g) := (scR.fq _ _ _).tr (scR.t40 _ _)
    by_cases hlt : ra ρ 25 cq < i32 (errE w u len m)
    · rw [if_pos hlt]
      exact ⟨_, 0, rfl, ⟨fun _ q => by rcases q with ⟨q, _⟩ | ⟨q, _⟩ | ⟨_, q⟩ | ⟨q, _⟩; exact absurd q (by decide); exact absurd q (by decide); exact q hlt; exact absurd q (by decide), fun _ => rfl⟩, hs⟩
    · rw [if_neg hlt]
      exact ⟨_, 1, rfl, ⟨fun q => absurd q (by decide), fun q => absurd (.inr (.inr (.inl ⟨rfl, hlt⟩))) q⟩, hs⟩
  · have s1 : R_M_soundOf (fQ ρ len F) = some (sndOf len (dgt w)) := R_soundOf_eq (ρ := fQ ρ len F) rfl hl (fun k hk => ⟨(hlw.d k hk).1, (f3 k hk).trans (hlw.d k hk).2⟩)
    rw [if_neg (by decide), if_pos rfl, s1, b1_some, b0_eq, fQ_n, show (0 : Int32) = i32 0 from rfl]
    obtain ⟨F', e1, e2, e3⟩ := R_n74 (ρ := ρ) (cq := cq) (n := len) (m := m) (v5 := sndOf len (dgt w)) hcq hm m 0 fu F (by omega) (by show m < 4096; omega)
    have s2 : R_M_soundOf (fQ ρ m F') = some (sndOf m (dgt u)) := R_soundOf_eq (ρ := fQ ρ m F') rfl hm (fun k hk => ⟨(hlu.d k hk).1, ((e2 k (by omega) hk).trans (hu k hk)).trans (hlu.d k hk).2⟩)
    rw [e1, s2, b1_some]
    by_cases hsn : sndOf len (dgt w) = sndOf m (dgt u)
    · rw [if_pos hsn.symm]
      exact ⟨_, 1, rfl, ⟨fun q => absurd q (by decide), fun q => absurd (.inr (.inr (.inr ⟨rfl, hsn⟩))) q⟩, scR.fq _ _ _⟩
    · rw [if_neg (fun q => hsn q.symm)]
      exact ⟨_, 0, rfl, ⟨fun _ q => by rcases q with ⟨q, _⟩ | ⟨q, _⟩ | ⟨q, _⟩ | ⟨_, q⟩; exact absurd q (by decide); exact absurd q (by decide); exact absurd q (by decide); exact hsn q, fun _ => rfl⟩, scR.fq _ _ _⟩
