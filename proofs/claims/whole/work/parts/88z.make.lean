/-! makeKeys, the first order -/
def mkR (ρ ρ' : RS) (k : Nat) : Prop := hiR ρ ρ' ∧ ri ρ' 36 = ri ρ 36 ∧ ra ρ' 37 = ra ρ 37 ∧ ∀ j, j ≠ k → kyR ρ ρ' j
theorem mkR.rf (ρ : RS) (k : Nat) : mkR ρ ρ k := ⟨hiR.rf _, rfl, rfl, fun _ _ => ⟨rfl, rfl, rfl, rfl, rfl⟩⟩
theorem kyR.tr {a b c : RS} {j : Nat} (h : kyR a b j) (k : kyR b c j) : kyR a c j := ⟨k.1.trans h.1, k.2.1.trans h.2.1, k.2.2.1.trans h.2.2.1, k.2.2.2.1.trans h.2.2.2.1, k.2.2.2.2.trans h.2.2.2.2⟩
theorem mkR.tr {a b c : RS} {k : Nat} (h : mkR a b k) (g : mkR b c k) : mkR a c k := ⟨h.1.tr g.1, g.2.1.trans h.2.1, g.2.2.1.trans h.2.2.1, fun j hj => (h.2.2.2 j hj).tr (g.2.2.2 j hj)⟩
theorem scR.ky {ρ ρ' : RS} (e : scR ρ ρ') (j : Nat) : kyR ρ ρ' j := ⟨congrFun (e.a 50) j, congrFun (e.a 51) j, congrFun (e.a 52) j, by rw [e.2.2], by rw [e.2.2]⟩
theorem scR.mk {ρ ρ' : RS} (e : scR ρ ρ') (k : Nat) : mkR ρ ρ' k := ⟨e.hi, e.i 36, e.a 37, fun j _ => e.ky j⟩
theorem mkR.i50 (ρ : RS) (k : Nat) (x : Int32) : mkR ρ (rset ρ 50 (upd (ra ρ 50) k x)) k := ⟨⟨⟨⟨rfl, rfl, rfl⟩, fun j hj => va_up_ne _ _ (by omega)⟩, rfl, rfl⟩, rfl, rfl, fun j hj => ⟨upd_ne _ _ hj, rfl, rfl, rfl, rfl⟩⟩
theorem mkR.i51 (ρ : RS) (k : Nat) (x : Int32) : mkR ρ (rset ρ 51 (upd (ra ρ 51) k x)) k := ⟨⟨⟨⟨rfl, rfl, rfl⟩, fun j hj => va_up_ne _ _ (by omega)⟩, rfl, rfl⟩, rfl, rfl, fun j hj => ⟨rfl, upd_ne _ _ hj, rfl, rfl, rfl⟩⟩
theorem mkR.i52 (ρ : RS) (k : Nat) (x : Int32) : mkR ρ (rset ρ 52 (upd (ra ρ 52) k x)) k := ⟨⟨⟨⟨rfl, rfl, rfl⟩, fun j hj => va_up_ne _ _ (by omega)⟩, rfl, rfl⟩, rfl, rfl, fun j hj => ⟨rfl, rfl, upd_ne _ _ hj, rfl, rfl⟩⟩
theorem mkR.i53 (ρ : RS) (k : Nat) (x : Int64) : mkR ρ (rsetL ρ 53 (vp_updL (rL ρ 53) k x)) k := ⟨⟨⟨⟨rfl, rfl, rfl⟩, fun j hj => rfl⟩, rfl, rfl⟩, rfl, rfl, fun j hj => ⟨rfl, rfl, rfl, updL_ne _ _ hj, rfl⟩⟩
theorem mkR.i54 (ρ : RS) (k : Nat) (x : Int64) : mkR ρ (rsetL ρ 54 (vp_updL (rL ρ 54) k x)) k := ⟨⟨⟨⟨rfl, rfl, rfl⟩, fun j hj => rfl⟩, rfl, rfl⟩, rfl, rfl, fun j hj => ⟨rfl, rfl, rfl, rfl, updL_ne _ _ hj⟩⟩
theorem ln_min (ok : Nat → Bool) (rk : Nat → Nat) {v : Nat} (m : Nat) : ∀ k acc, v ≤ acc → (∀ j, k ≤ j → j < k + m → ok j = true → v ≤ rk j) → v ≤ lnF ok rk m k acc := by
  induction m with
  | zero => intro k acc h _; exact h
  | succ m ih =>
    intro k acc h hj
    unfold lnF
    by_cases c : ok k = true
    · rw [if_pos c]
      exact ih (k + 1) _ (Nat.le_min.mpr ⟨h, hj k (Nat.le_refl _) (by omega) c⟩) (fun j h1 h2 => hj j (by omega) (by omega))
    · rw [if_neg c]
      exact ih (k + 1) _ h (fun j h1 h2 => hj j (by omega) (by omega))
theorem ln_at (ok : Nat → Bool) (rk : Nat → Nat) (m : Nat) : ∀ k acc j, k ≤ j → j < k + m → ok j = true → lnF ok rk m k acc ≤ rk j := by
  induction m with
  | zero => intro k acc j h1 h2; omega
  | succ m ih =>
    intro k acc j h1 h2 h3
    unfold lnF
    by_cases c : j = k
    · subst c
      rw [if_pos h3]
      exact Nat.le_trans (ln_le _ _ _ _ _) (Nat.min_le_right _ _)
    · exact ih (k + 1) _ j (by omega) (by omega) h3
/-- the best name so far -/
def bkN (ok : Nat → Bool) (rk : Nat → Nat) (i : Nat) (x : Int32) (k : Nat) : Prop := (x = -1 ∧ ∀ j, j < k → ¬ ok j = true) ∨ ∃ q, q < k ∧ x = i32 (2 * i + q) ∧ ok q = true ∧ ∀ j, j < k → ok j = true → rk q ≤ rk j
theorem bkN.skip {ok : Nat → Bool} {rk : Nat → Nat} {i k : Nat} {x : Int32} (h : bkN ok rk i x k) (hk : ¬ ok k = true) : bkN ok rk i x (k + 1) := by
  rcases h with ⟨h1, h2⟩ | ⟨q, h1, h2, h3, h4⟩
  · refine .inl ⟨h1, fun j hj => ?_⟩
    by_cases c : j = k
    · rw [c]; exact hk
    · exact h2 j (by omega)
  · refine .inr ⟨q, by omega, h2, h3, fun j hj ho => ?_⟩
    by_cases c : j = k
    · rw [c] at ho; exact absurd ho hk
    · exact h4 j (by omega) ho
theorem mk72 {ρ0 ρ : RS} {i n k : Nat} {ln : Nat → Nat} {ok : Nat → Bool} {day r : Int32} (K : Int32 → Int32 → Int32 → Int32 → Int32 → RS → Option (Unit × RS)) (hi : i < 30) (hn : n ≤ 2) (h12 : ∀ k, k < n → ra ρ0 12 (2 * i + k) = i32 (ln k) ∧ ltr (ln k) (fun j => ra ρ0 13 (10 * (2 * i + k) + j))) (hm : mkR ρ0 ρ i) (hb : bkN ok (rkO ρ0 ln i) i (ra ρ 50 i) k) (hk : k < n) (hok : ok k = true) : ∃ ρ', RB_M_makeKeys_72 K (i32 i) day 1 r (i32 k) (i32 (2 * i + k)) ρ = K (i32 i) day 1 r (i32 (k + 1)) ρ' ∧ mkR ρ0 ρ' i ∧ bkN ok (rkO ρ0 ln i) i (ra ρ' 50 i) (k + 1) := by
  have e97 : RB_M_makeKeys_97 K (i32 i) day 1 r (i32 k) (i32 (2 * i + k)) ρ = K (i32 i) day 1 r (i32 (k + 1)) (rset ρ 50 (upd (ra ρ 50) i (i32 (2 * i + k)))) := by
    unfold RB_M_makeKeys_97 RB_M_makeKeys_105
    rw [rsI_at hi (by decide), b1_some, i32_succ]
  have v50 : ra (rset ρ 50 (upd (ra ρ 50) i (i32 (2 * i + k)))) 50 i = i32 (2 * i + k) := upd_at _ _ _
  unfold RB_M_makeKeys_72
  rw [rgI_at hi (by decide), b1_some, b1_some]
  rcases hb with ⟨h1, h2⟩ | ⟨q, h1, h2, h3, h4⟩
  · rw [if_pos h1, e97]
    refine ⟨_, rfl, hm.tr (mkR.i50 _ _ _), .inr ⟨k, by omega, v50, hok, fun j hj ho => ?_⟩⟩
    by_cases c : j = k
    · rw [c]; exact Nat.le_refl _
    · exact absurd ho (h2 j (by omega))
  · rw [if_neg (by rw [h2]; exact ne_m1 (by omega)), h2]
    obtain ⟨l1, l2⟩ := h12 k hk
    obtain ⟨g1, g2⟩ := h12 q (by omega)
    have e12 := hm.1.1.2 12 (by decide)
    have e13 := hm.1.1.2 13 (by decide)
    obtain ⟨x, x1, x2, x3⟩ := compareWords_eq (ρ := ρ) (p := 2 * i + k) (q := 2 * i + q) (n := ln k) (n' := ln q) (by omega) (by omega) (by rw [e12]; exact l1) (by rw [e12]; exact g1) (by rw [e13]; exact l2) (by rw [e13]; exact g2)
    have k1 : nrk ρ (2 * i + k) (ln k) = rkO ρ0 ln i k := by
      unfold nrk rkO
      rw [e13]
    have k2 : nrk ρ (2 * i + q) (ln q) = rkO ρ0 ln i q := by
      unfold nrk rkO
      rw [e13]
    rw [k1, k2] at x2
    rw [x1, b1_some]
    by_cases c0 : 0 ≤ x
    · rw [if_pos c0]
      refine ⟨ρ, ?_, hm, .inr ⟨q, by omega, h2, h3, fun j hj ho => ?_⟩⟩
      · unfold RB_M_makeKeys_105
        rw [i32_succ]
      · by_cases c : j = k
        · rw [c]
          have : ¬ x < 0 := i32_nlt.mpr c0
          have := mt x2.mpr this
          omega
        · exact h4 j (by omega) ho
    · rw [if_neg c0, e97]
      have hlt : rkO ρ0 ln i k < rkO ρ0 ln i q := x2.mp (by
        by_cases z : x < 0
        · exact z
        · exact absurd (i32_nlt.mp z) c0)
      refine ⟨_, rfl, hm.tr (mkR.i50 _ _ _), .inr ⟨k, by omega, v50, hok, fun j hj ho => ?_⟩⟩
      by_cases c : j = k
      · rw [c]; exact Nat.le_refl _
      · have := h4 j (by omega) ho
        omega
theorem mk1 {ρ0 : RS} {i n m : Nat} {ln : Nat → Nat} {ok : Nat → Bool} {u : Nat → Int32} {day r kind a : Int32} (hi : i < 30) (hn : n ≤ 2) (h9 : ra ρ0 9 i = i32 n) (h12 : ∀ k, k < n → ra ρ0 12 (2 * i + k) = i32 (ln k) ∧ ltr (ln k) (fun j => ra ρ0 13 (10 * (2 * i + k) + j))) (hlu : ltr m u) (hkd : kind = 0 ∨ kind = 1 ∨ kind = 2 ∨ kind = 3) (hr : (r = -1 ∧ ∀ n w, fitQ kind a n w m u) ∨ ∃ q, q < 5 ∧ r = i32 q ∧ ra ρ0 24 q = kind ∧ ra ρ0 25 q = a ∧ ra ρ0 28 q = i32 m ∧ ∀ j, ra ρ0 29 (10 * q + j) = u j) (hok : ∀ k, (ok k = true ↔ okN ρ0 ln i day kind a m u k)) (M : Nat) : ∀ (k fuel : Nat) (ρ : RS), mkR ρ0 ρ i → bkN ok (rkO ρ0 ln i) i (ra ρ 50 i) k → k + M = n → M < fuel → ∃ ρ', RB_M_makeKeys_23 fuel (i32 i) day 1 r (i32 k) ρ = some ((), ρ') ∧ mkR ρ0 ρ' i ∧ bkN ok (rkO ρ0 ln i) i (ra ρ' 50 i) n := by
  induction M with
  | zero =>
    intro k fuel ρ hm hb hk hf
    cases fuel with
    | zero => omega
    | succ fuel =>
      refine ⟨ρ, ?_, hm, by rw [show n = k by omega]; exact hb⟩
      show b1 (rgI ρ 9 30 (i32 i)) (fun x30 => if x30 ≤ i32 k then RB_M_makeKeys_111 (i32 i) day 1 ρ else _) = _
      rw [rgI_at hi (by decide), hm.1.1.2 9 (by decide), h9, b1_some, if_pos ((i32_le (by omega) (by omega)).mpr (by omega))]
      rfl
  | succ M ih =>
    intro k fuel ρ hm hb hk hf
    cases fuel with
    | zero => omega
    | succ fuel =>
      have hkn : k < n := by omega
      have e : ∀ j, j < 35 → ra ρ j = ra ρ0 j := hm.1.1.2
      have expand : RB_M_makeKeys_23 (fuel + 1) (i32 i) day 1 r (i32 k) ρ = b1 (R_M_isOf (i32 (2 * i + k)) day ρ) (fun x46 => if x46 = 0 then RB_M_makeKeys_23 fuel (i32 i) day 1 r (i32 (k + 1)) ρ else if r = -1 then RB_M_makeKeys_72 (fun v1 v2 v3 v4 v5 ρ => RB_M_makeKeys_23 fuel v1 v2 v3 v4 v5 ρ) (i32 i) day 1 r (i32 k) (i32 (2 * i + k)) ρ else c2 (R_M_isNamed (i32 (2 * i + k)) r ρ) (fun x63 ρ63 => if x63 = 0 then RB_M_makeKeys_23 fuel (i32 i) day 1 r (i32 (k + 1)) ρ63 else RB_M_makeKeys_72 (fun v1 v2 v3 v4 v5 ρ => RB_M_makeKeys_23 fuel v1 v2 v3 v4 v5 ρ) (i32 i) day 1 r (i32 k) (i32 (2 * i + k)) ρ63)) := by
        show b1 (rgI ρ 9 30 (i32 i)) (fun x30 => if x30 ≤ i32 k then _ else b0 ((2 * i32 i) + i32 k) (fun x40 => b1 (R_M_isOf x40 day ρ) (fun x46 => if x46 = 0 then RB_M_makeKeys_23 fuel (i32 i) day 1 r (i32 k + 1) ρ else if r = -1 then RB_M_makeKeys_72 (fun v1 v2 v3 v4 v5 ρ => RB_M_makeKeys_23 fuel v1 v2 v3 v4 v5 ρ) (i32 i) day 1 r (i32 k) x40 ρ else c2 (R_M_isNamed x40 r ρ) (fun x63 ρ63 => if x63 = 0 then RB_M_makeKeys_23 fuel (i32 i) day 1 r (i32 k + 1) ρ63 else RB_M_makeKeys_72 (fun v1 v2 v3 v4 v5 ρ => RB_M_makeKeys_23 fuel v1 v2 v3 v4 v5 ρ) (i32 i) day 1 r (i32 k) x40 ρ63)))) = _
        rw [rgI_at hi (by decide), e 9 (by decide), h9, b1_some, if_neg (fun q => by have := (i32_le (by omega) (by omega)).mp q; omega), i32_2, i32_succ]
        rfl
      rw [expand, R_isOf_eq (by omega), e 10 (by decide), e 11 (by decide), b1_some]
      by_cases ho : ra ρ0 10 (2 * i + k) ≤ day ∧ day ≤ ra ρ0 11 (2 * i + k)
      · rw [if_neg (by rw [bI_pos ho]; decide)]
        rcases hr with ⟨r1, r2⟩ | ⟨q, q1, q2, q3, q4, q5, q6⟩
        · rw [if_pos r1]
          have hokt : ok k = true := (hok k).mpr ⟨ho, r2 _ _⟩
          obtain ⟨ρ1, t1, t2, t3⟩ := mk72 (day := day) (r := r) (fun v1 v2 v3 v4 v5 ρ => RB_M_makeKeys_23 fuel v1 v2 v3 v4 v5 ρ) hi hn h12 hm hb hkn hokt
          rw [t1]
          exact ih (k + 1) fuel ρ1 t2 t3 (by omega) (by omega)
        · rw [if_neg (by rw [q2]; exact ne_m1 (by omega))]
          obtain ⟨l1, l2⟩ := h12 k hkn
          obtain ⟨ρ1, x, f1, f2, f3⟩ := R_isNamed_eq (ρ := ρ) (q := 2 * i + k) (cq := q) (len := ln k) (m := m) (w := fun j => ra ρ0 13 (10 * (2 * i + k) + j)) (u := u) (by omega) (by omega) (by rw [e 12 (by decide)]; exact l1) (by rw [e 28 (by decide)]; exact q5) (fun j _ => by rw [e 13 (by decide)]) (fun j _ => by rw [e 29 (by decide)]; exact q6 j) l2 hlu (by rw [e 24 (by decide), q3]; exact hkd)
          rw [e 24 (by decide), e 25 (by decide), q3, q4] at f2
          have hm1 := hm.tr (f3.mk i)
          have hb1 : bkN ok (rkO ρ0 ln i) i (ra ρ1 50 i) k := by rw [f3.a 50]; exact hb
          rw [q2, f1, c2_some, ← q2]
          by_cases hx : x = 0
          · rw [if_pos hx]
            exact ih (k + 1) fuel ρ1 hm1 (hb1.skip (fun z => (f2.mp hx) ((hok k).mp z).2)) (by omega) (by omega)
          · rw [if_neg hx]
            have hokt : ok k = true := (hok k).mpr ⟨ho, Classical.byContradiction (fun z => hx (f2.mpr z))⟩
            obtain ⟨ρ2, t1, t2, t3⟩ := mk72 (day := day) (r := r) (fun v1 v2 v3 v4 v5 ρ => RB_M_makeKeys_23 fuel v1 v2 v3 v4 v5 ρ) hi hn h12 hm1 hb1 hkn hokt
            rw [t1]
            exact ih (k + 1) fuel ρ2 t2 t3 (by omega) (by omega)
      · rw [if_pos (bI_neg ho)]
        exact ih (k + 1) fuel ρ hm (hb.skip (fun z => ho ((hok k).mp z).1)) (by omega) (by omega)
theorem ncQ.hi {ro : Nat → Nat} {μ : Mem} {ρ ρ' : RS} {cd m : Nat} {kind x y z r : Int32} {u : Nat → Int32} (h : ncQ ro μ ρ cd kind x y z m u r) (e : frR ρ ρ') : ncQ ro μ ρ' cd kind x y z m u r := by
  obtain ⟨h1, h2, h3, h4⟩ := h
  refine ⟨h1, h2, h3, h4.imp id (fun ⟨q, q1, q2, q3, q4, q5, q6⟩ => ⟨q, q1, q2, ?_, ?_, ?_, fun j => ?_⟩)⟩
  · rw [e.2 24 (by decide)]; exact q3
  · rw [e.2 25 (by decide)]; exact q4
  · rw [e.2 28 (by decide)]; exact q5
  · rw [e.2 29 (by decide)]; exact q6 j
theorem key1 {ro : Nat → Nat} {μ : Mem} {ρ : RS} {pl : Nat → Nat} {N i c lPl aX aY nc rt aT nt lC aW hH eE rR an cd m : Nat} {u : Nat → Int32} {kind x y z r : Int32} (day : Int32) (w : WF μ) (lo : LO μ) (h1 : Is ro μ c 2 (PFc lPl aX aY nc rt aT nt lC aW hH eE rR an)) (hP : IP ro μ ρ pl N i) (hi : i < 30) (hE : IE ro μ eE) (hc : ncQ ro μ ρ cd kind x y z m u r) (hr : R_M_firstCondition 0 3 ρ = some r) : ∃ (μ' : Mem) (ρ' : RS) (κ : Int64), S_P_leastName (some c) (some (pl i)) (some cd) day μ = some (κ, μ') ∧ R_M_makeKeys (i32 i) day 1 ρ = some ((), ρ') ∧ Ext WR ro μ ro μ' ∧ IE ro μ' eE ∧ mkR ρ ρ' i ∧ KR1 ρ' κ i := by
  obtain ⟨c1, c2', c3, c4⟩ := hc
  obtain ⟨μ', n, ln, ok, g1, g2, g3, g4, g5, g6, g7⟩ := least_eq day w lo h1 hP hE c1 c2' c3
  have hm0 := mkR.i50 ρ i (-1)
  have h12 : ∀ k, k < n → ra (rset ρ 50 (upd (ra ρ 50) i (-1))) 12 (2 * i + k) = i32 (ln k) ∧ ltr (ln k) (fun j => ra (rset ρ 50 (upd (ra ρ 50) i (-1))) 13 (10 * (2 * i + k) + j)) := fun k hk => ⟨(g3 k hk).1, (g3 k hk).2.2⟩
  obtain ⟨ρ', t1, t2, t3⟩ := mk1 (ρ0 := rset ρ 50 (upd (ra ρ 50) i (-1))) (ln := ln) (ok := ok) (day := day) (r := r) (kind := kind) (a := x) (u := u) (m := m) hi g2 g1 h12 c2' c3 c4 g4 n 0 fu _ (mkR.rf _ _) (.inl ⟨upd_at _ _ _, fun j hj => absurd hj (Nat.not_lt_zero j)⟩) (by omega) (by show n < 4096; omega)
  have hm := hm0.tr t2
  have e12 := hm.1.1.2 12 (by decide)
  have e13 := hm.1.1.2 13 (by decide)
  refine ⟨μ', ρ', _, g5, ?_, g6, g7, hm, ?_⟩
  · unfold R_M_makeKeys
    rw [if_pos rfl, hr, b1_some, rsI_at hi (by decide), b1_some, show (0 : Int32) = i32 0 from rfl, t1]
  · have hB : ∀ j, 0 ≤ j → j < 0 + n → rkO ρ ln i j < 1152921504606846976 := fun j _ hj => rkO_lt (g3 j (by omega)).2.2
    rcases t3 with ⟨b1', b2⟩ | ⟨q, b1', b2, b3, b4⟩
    · refine .inl ⟨b1', ?_⟩
      rw [(ln_iff ok (rkO ρ ln i) n 0 hB).mpr (fun ⟨j, _, j2, j3⟩ => b2 j (by omega) j3)]
    · refine .inr ⟨2 * i + q, ln q, by omega, b2, by rw [e12]; exact (g3 q b1').1, by rw [e13]; exact (g3 q b1').2.2, ?_⟩
      have k2 : nrk ρ' (2 * i + q) (ln q) = rkO ρ ln i q := by
        unfold nrk rkO
        rw [e13]
      rw [k2]
      have l1 := ln_at ok (rkO ρ ln i) n 0 1152921504606846976 q (Nat.zero_le _) (by omega) b3
      have l2 := ln_min ok (rkO ρ ln i) (v := rkO ρ ln i q) n 0 1152921504606846976 (Nat.le_of_lt (hB q (Nat.zero_le _) (by omega))) (fun j _ hj ho => b4 j (by omega) ho)
      rw [Nat.le_antisymm l1 l2]
