/-! parents: on which days a place is above another -/
theorem lst_some (F T : Nat → Int32) (day : Int32) (m : Nat) : ∀ (k : Nat) (cur : Option Nat) (j : Nat), lstIx F T day m k cur = some j → (k ≤ j ∧ j < k + m ∧ F j ≤ day ∧ day ≤ T j) ∨ cur = some j := by
  induction m with
  | zero => intro k cur j h; exact .inr h
  | succ m ih =>
    intro k cur j h
    rcases ih (k + 1) _ j h with q | q
    · exact .inl ⟨by omega, by omega, q.2.2⟩
    · split at q
      · rename_i hq
        cases q
        exact .inl ⟨by omega, by omega, hq⟩
      · exact .inr q
theorem lst_ex (F T : Nat → Int32) (day : Int32) (m : Nat) : ∀ (k : Nat) (cur : Option Nat), (cur ≠ none ∨ ∃ j, k ≤ j ∧ j < k + m ∧ F j ≤ day ∧ day ≤ T j) → lstIx F T day m k cur ≠ none := by
  induction m with
  | zero =>
    intro k cur h
    rcases h with h | ⟨j, h1, h2, _⟩
    · exact h
    · omega
  | succ m ih =>
    intro k cur h
    refine ih (k + 1) _ ?_
    rcases h with h | ⟨j, h1, h2, h3⟩
    · left
      split
      · exact nofun
      · exact h
    · by_cases hjk : j = k
      · left
        rw [if_pos (by rw [← hjk]; exact h3)]
        exact nofun
      · exact .inr ⟨j, by omega, by omega, h3⟩
theorem upD_iff {ρ : RS} {N i : Nat} (hA : IA ρ N) (hi : i < N) (day : Int32) (p : Nat) : upD ρ day i = some p ↔ ∃ j, j < nSp ρ i ∧ ra ρ 16 (4 * i + j) ≤ day ∧ day ≤ ra ρ 17 (4 * i + j) ∧ p = (ra ρ 15 (4 * i + j)).toNatClampNeg := by
  unfold upD
  constructor
  · intro h
    cases hl : lstIx (fun k => ra ρ 16 (4 * i + k)) (fun k => ra ρ 17 (4 * i + k)) day (nSp ρ i) 0 none with
    | none => rw [hl] at h; cases h
    | some j =>
      rw [hl] at h
      rcases lst_some _ _ _ _ _ _ _ hl with q | q
      · refine ⟨j, by omega, q.2.2.1, q.2.2.2, ?_⟩
        cases h
        rfl
      · cases q
  · rintro ⟨j, h1, h2, h3, h4⟩
    cases hl : lstIx (fun k => ra ρ 16 (4 * i + k)) (fun k => ra ρ 17 (4 * i + k)) day (nSp ρ i) 0 none with
    | none => exact absurd hl (lst_ex _ _ _ _ _ _ (.inr ⟨j, by omega, by omega, h2, h3⟩))
    | some l =>
      rcases lst_some _ _ _ _ _ _ _ hl with q | q
      · have : l = j := hA.2.1 i hi l j (by omega) h1 (Int32.le_trans q.2.2.1 h3) (Int32.le_trans h2 q.2.2.2)
        rw [this, h4]
        rfl
      · cases q
theorem upD_none {ρ : RS} {N i : Nat} (hA : IA ρ N) (hi : i < N) {day : Int32} (h : ∀ j, j < nSp ρ i → ¬ (ra ρ 16 (4 * i + j) ≤ day ∧ day ≤ ra ρ 17 (4 * i + j))) : upD ρ day i = none := by
  cases hu : upD ρ day i with
  | none => rfl
  | some p =>
    obtain ⟨j, h1, h2, h3, _⟩ := (upD_iff hA hi day p).mp hu
    exact absurd ⟨h2, h3⟩ (h j h1)
theorem itU_s (up : Nat → Option Nat) (m i : Nat) : itU up (m + 1) i = (itU up m i).bind up := by
  rw [itU_add]
  congr 1
  funext q
  show (up q).bind (itU up 0) = up q
  cases up q with
  | none => rfl
  | some _ => rfl
/-- the latest start on the way -/
theorem reach_start {U : Int32 → Nat → Option Nat} {N : Nat} {S : Nat → Nat} {Fr To : Nat → Nat → Int32} {Pa : Nat → Nat → Nat} (hiff : ∀ i, i < N → ∀ day p, (U day i = some p ↔ ∃ j, j < S i ∧ Fr i j ≤ day ∧ day ≤ To i j ∧ p = Pa i j)) (hlt : ∀ day i, i < N → ∀ j, U day i = some j → j < N) {from' day : Int32} {t : Nat} (hd : from' ≤ day) (m : Nat) : ∀ a, a < N → itU (U day) m a = some t → ∃ d, from' ≤ d ∧ d ≤ day ∧ (d = from' ∨ ∃ p k, p < N ∧ k < S p ∧ d = Fr p k) ∧ ∀ d', d ≤ d' → d' ≤ day → itU (U d') m a = some t := by
  induction m with
  | zero => intro a ha h; exact ⟨from', Int32.le_refl _, hd, .inl rfl, fun d' _ _ => h⟩
  | succ m ih =>
    intro a ha h
    have h : (U day a).bind (itU (U day) m) = some t := h
    cases hu : U day a with
    | none =>
      rw [hu] at h
      cases h
    | some p =>
      rw [hu] at h
      obtain ⟨d1, e1, e2, e3, e4⟩ := ih p (hlt day a ha p hu) h
      obtain ⟨j, j1, j2, j3, j4⟩ := (hiff a ha day p).mp hu
      have step : ∀ d', Fr a j ≤ d' → d1 ≤ d' → d' ≤ day → itU (U d') (m + 1) a = some t := by
        intro d' q1 q2 q3
        show (U d' a).bind (itU (U d') m) = some t
        rw [(hiff a ha d' p).mpr ⟨j, j1, q1, Int32.le_trans q3 j3, j4⟩]
        exact e4 d' q2 q3
      by_cases hc : d1 ≤ Fr a j
      · exact ⟨Fr a j, Int32.le_trans e1 hc, j2, .inr ⟨a, j, ha, j1, rfl⟩, fun d' q1 q2 => step d' q1 (Int32.le_trans hc q1) q2⟩
      · have hc' : Fr a j ≤ d1 := Int32.le_of_lt (i32_nle.mp hc)
        exact ⟨d1, e1, e2, e3, fun d' q1 q2 => step d' (Int32.le_trans hc' q1) q1 q2⟩
/-- comesTo says whether there is such a day -/
theorem P_comes {μ : Mem} {pl : Nat → Nat} {U : Int32 → Nat → Option Nat} {N t a0 : Nat} {S lk : Nat → Nat} {li : Nat → Nat → Nat} {Fr To : Nat → Nat → Int32} {Pa : Nat → Nat → Nat} (hN : N ≤ 30) (ht : t < N) (hiff : ∀ i, i < N → ∀ day p, (U day i = some p ↔ ∃ j, j < S i ∧ Fr i j ≤ day ∧ day ≤ To i j ∧ p = Pa i j)) (hlt : ∀ i j, i < N → j < S i → Pa i j < N) (hS : ∀ i, i < N → S i ≤ 4) (hshort : ∀ day, itU (U day) 30 a0 = none) (hnum : ∀ i, i < N → gI μ (some (pl i)) 7 0 = some (i32 i)) (hlk : ∀ i, i < N → gR μ (some (pl i)) 7 6 = some (some (lk i))) (hrc : ∀ i, i < N → rc μ (some (lk i)) 0 = some ()) (hsz : ∀ i, i < N → S_Al_size (some (lk i)) μ = some (i32 (S i))) (hget : ∀ i j, i < N → j < S i → S_Al_get (some (lk i)) (i32 j) μ = some (some (li i j))) (hli : ∀ i j, i < N → j < S i → mF μ (li i j) = some (.inr (5, [.ref (pl (Pa i j)), .int (Fr i j), .int (To i j)]))) (n : Nat) : ∀ (a depth : Nat) (f' t' : Int32), a < N → f' ≤ t' → n + depth = 32 → (∀ day, f' ≤ day → day ≤ t' → itU (U day) depth a0 = some a) → ∃ r : Int32, G_P_comesTo μ n (some (pl a)) (i32 t) f' t' (i32 depth) = some r ∧ (r = 0 ↔ ¬ ∃ day m, f' ≤ day ∧ day ≤ t' ∧ itU (U day) m a = some t) := by
  induction n with
  | zero =>
    intro a depth f' t' ha hft hd hch
    have h1 := hch f' (Int32.le_refl _) hft
    rw [itU_none (hshort f') (by omega)] at h1
    cases h1
  | succ n ih =>
    intro a depth f' t' ha hft hd hch
    have hdep : depth < 30 := by
      rcases Nat.lt_or_ge depth 30 with q | q
      · exact q
      · have h1 := hch f' (Int32.le_refl _) hft
        rw [itU_none (hshort f') q] at h1
        cases h1
    show ∃ r, F_P_comesTo μ (G_P_comesTo μ n) (some (pl a)) (i32 t) f' t' (i32 depth) = some r ∧ _
    unfold F_P_comesTo B_P_comesTo_15
    rw [hnum a ha, b1_some]
    by_cases hat : a = t
    · rw [if_pos (by rw [hat])]
      exact ⟨1, gd1, ⟨fun q => absurd q (by decide), fun q => absurd ⟨f', 0, Int32.le_refl _, hft, by rw [hat]; rfl⟩ q⟩⟩
    · rw [if_neg (fun q => hat ((i32_inj (by omega) (by omega)).mp q)), if_pos (show i32 depth < (30 : Int32) from (i32_lt (b := 30) (by omega) (by decide)).mpr hdep)]
      have loop : ∀ m k fuel, k + m = S a → m < fuel → ∃ r : Int32, B_P_comesTo_20 μ (G_P_comesTo μ n) fuel (some (pl a)) (i32 t) f' t' (i32 depth) (i32 k) = some r ∧ (r = 0 ↔ ¬ ∃ j day m, k ≤ j ∧ j < S a ∧ f' ≤ day ∧ day ≤ t' ∧ Fr a j ≤ day ∧ day ≤ To a j ∧ itU (U day) m (Pa a j) = some t) := by
        intro m
        induction m with
        | zero =>
          intro k fuel hk hf
          cases fuel with
          | zero => omega
          | succ fuel =>
            refine ⟨0, ?_, ⟨fun _ ⟨j, day, m, h1, h2, _⟩ => by omega, fun _ => rfl⟩⟩
            show b1 (gR μ (some (pl a)) 7 6) (fun x23 => b1 (rc μ x23 0) (fun _ => b1 (S_Al_size x23 μ) (fun x26 => if x26 ≤ i32 k then gd (¬ okZ 0 = true) (some 0) else _))) = _
            have hSa := hS a ha
            rw [hlk a ha, b1_some, hrc a ha, b1_some, hsz a ha, b1_some, if_pos ((i32_le (by omega) (by omega)).mpr (by omega))]
            exact gd0
        | succ m ihm =>
          intro k fuel hk hf
          cases fuel with
          | zero => omega
          | succ fuel =>
            have hSa := hS a ha
            have hka : k < S a := by omega
            obtain ⟨r2, p1, p2⟩ := ihm (k + 1) fuel (by omega) (by omega)
            have hcell := hli a k ha hka
            have expand : B_P_comesTo_20 μ (G_P_comesTo μ n) (fuel + 1) (some (pl a)) (i32 t) f' t' (i32 depth) (i32 k) = if (if To a k < t' then To a k else t') < (if f' < Fr a k then Fr a k else f') then some r2 else b1 (G_P_comesTo μ n (some (pl (Pa a k))) (i32 t) (if f' < Fr a k then Fr a k else f') (if To a k < t' then To a k else t') (i32 (depth + 1))) (fun x89 => if x89 = 0 then some r2 else gd (¬ okZ 1 = true) (some 1)) := by
              show b1 (gR μ (some (pl a)) 7 6) (fun x23 => b1 (rc μ x23 0) (fun _ => b1 (S_Al_size x23 μ) (fun x26 => if x26 ≤ i32 k then _ else b1 (gR μ (some (pl a)) 7 6) (fun x33 => b1 (rc μ x33 0) (fun _ => b1 (S_Al_get x33 (i32 k) μ) (fun x38 => b1 (cK μ x38 5) (fun _ => b1 (gI μ x38 5 1) (fun x49 => b1 (S_Ma_max f' x49 μ) (fun x52 => b1 (gI μ x38 5 2) (fun x60 => b1 (S_Ma_min t' x60 μ) (fun x63 => if x63 < x52 then B_P_comesTo_20 μ (G_P_comesTo μ n) fuel (some (pl a)) (i32 t) f' t' (i32 depth) (i32 k + 1) else b1 (gR μ x38 5 0) (fun x77 => b1 (G_P_comesTo μ n x77 (i32 t) x52 x63 (i32 depth + 1)) (fun x89 => if x89 = 0 then B_P_comesTo_20 μ (G_P_comesTo μ n) fuel (some (pl a)) (i32 t) f' t' (i32 depth) (i32 k + 1) else gd (¬ okZ 1 = true) (some 1)))))))))))))) = _
              rw [hlk a ha, b1_some, hrc a ha, b1_some, hsz a ha, b1_some, if_neg (fun q => by have := (i32_le (by omega) (by omega)).mp q; omega), b1_some, hrc a ha, b1_some, hget a k ha hka, b1_some, cK_at hcell, b1_some, gI_at hcell (k := 1) rfl, b1_some, Ma_max_eq, b1_some, gI_at hcell (k := 2) rfl, b1_some, Ma_min_eq, b1_some, gR_at hcell (k := 0) rfl, b1_some, i32_succ, i32_succ, p1]
            have hmax1 : f' ≤ (if f' < Fr a k then Fr a k else f') ∧ Fr a k ≤ (if f' < Fr a k then Fr a k else f') := by
              split
              · rename_i q; exact ⟨Int32.le_of_lt q, Int32.le_refl _⟩
              · rename_i q; exact ⟨Int32.le_refl _, i32_nlt.mp q⟩
            have hmin1 : (if To a k < t' then To a k else t') ≤ t' ∧ (if To a k < t' then To a k else t') ≤ To a k := by
              split
              · rename_i q; exact ⟨Int32.le_of_lt q, Int32.le_refl _⟩
              · rename_i q; exact ⟨Int32.le_refl _, i32_nlt.mp q⟩
            have hmax2 : ∀ day, f' ≤ day → Fr a k ≤ day → (if f' < Fr a k then Fr a k else f') ≤ day := fun day q1 q2 => by split <;> assumption
            have hmin2 : ∀ day, day ≤ t' → day ≤ To a k → day ≤ (if To a k < t' then To a k else t') := fun day q1 q2 => by split <;> assumption
            rw [expand]
            by_cases hov : (if To a k < t' then To a k else t') < (if f' < Fr a k then Fr a k else f')
            · rw [if_pos hov]
              refine ⟨r2, rfl, p2.trans ⟨fun h ⟨j, day, m, h1, h2, h3, h4, h5, h6, h7⟩ => ?_, fun h ⟨j, day, m, h1, h2⟩ => h ⟨j, day, m, by omega, h2⟩⟩⟩
              by_cases hjk : j = k
              · subst hjk
                exact (i32_nlt.mpr (Int32.le_trans (hmax2 day h3 h5) (hmin2 day h4 h6))) hov
              · exact h ⟨j, day, m, by omega, h2, h3, h4, h5, h6, h7⟩
            · rw [if_neg hov]
              obtain ⟨r1, q1, q2⟩ := ih (Pa a k) (depth + 1) _ _ (hlt a k ha hka) (i32_nlt.mp hov) (by omega) (fun day d1 d2 => by
                rw [itU_s, hch day (Int32.le_trans hmax1.1 d1) (Int32.le_trans d2 hmin1.1)]
                exact (hiff a ha day (Pa a k)).mpr ⟨k, hka, Int32.le_trans hmax1.2 d1, Int32.le_trans d2 hmin1.2, rfl⟩)
              rw [q1, b1_some]
              by_cases hr1 : r1 = 0
              · rw [if_pos hr1]
                refine ⟨r2, rfl, p2.trans ⟨fun h ⟨j, day, m, h1, h2, h3, h4, h5, h6, h7⟩ => ?_, fun h ⟨j, day, m, h1, h2⟩ => h ⟨j, day, m, by omega, h2⟩⟩⟩
                by_cases hjk : j = k
                · subst hjk
                  exact (q2.mp hr1) ⟨day, m, hmax2 day h3 h5, hmin2 day h4 h6, h7⟩
                · exact h ⟨j, day, m, by omega, h2, h3, h4, h5, h6, h7⟩
              · rw [if_neg hr1]
                refine ⟨1, gd1, ⟨fun q => absurd q (by decide), fun h => ?_⟩⟩
                exfalso
                refine hr1 (q2.mpr (fun ⟨day, m, h1, h2, h3⟩ => h ⟨k, day, m, Nat.le_refl _, hka, Int32.le_trans hmax1.1 h1, Int32.le_trans h2 hmin1.1, Int32.le_trans hmax1.2 h1, Int32.le_trans h2 hmin1.2, h3⟩))
      obtain ⟨r, p1, p2⟩ := loop (S a) 0 fu (by omega) (by have := hS a ha; show S a < 4096; omega)
      refine ⟨r, p1, p2.trans ⟨fun h ⟨day, m, h1, h2, h3⟩ => ?_, fun h ⟨j, day, m, _, h2, h3, h4, h5, h6, h7⟩ => ?_⟩⟩
      · cases m with
        | zero => cases h3; exact hat rfl
        | succ m =>
          have h3 : (U day a).bind (itU (U day) m) = some t := h3
          cases hu : U day a with
          | none => rw [hu] at h3; cases h3
          | some p =>
            rw [hu] at h3
            obtain ⟨j, j1, j2, j3, j4⟩ := (hiff a ha day p).mp hu
            subst j4
            exact h ⟨j, day, m, Nat.zero_le _, j1, h1, h2, j2, j3, h3⟩
      · refine h ⟨day, m + 1, h3, h4, ?_⟩
        show (U day a).bind (itU (U day) m) = some t
        rw [(hiff a ha day (Pa a j)).mpr ⟨j, h2, h5, h6, rfl⟩]
        exact h7
/-- a new edge makes no circle, if its end doesn't come back to its start -/
theorem no_circle {up up' : Nat → Option Nat} {i area : Nat} (h2 : up' i = some area) (h3 : ∀ j, j ≠ i → up' j = up j) (hno : ∀ m, itU up m area ≠ some i) {N : Nat} (hac : ∀ x m, x < N → itU up (m + 1) x ≠ some x) : ∀ x m, x < N → itU up' (m + 1) x ≠ some x := by
  have hA : ∀ m, itU up' m area = itU up m area := by
    intro m
    induction m with
    | zero => rfl
    | succ m ih =>
      rw [itU_s, itU_s, ih]
      cases hz : itU up m area with
      | none => rfl
      | some z => exact h3 z (fun q => hno m (by rw [hz, q]))
  intro x m hx hc
  by_cases hh : ∃ k, k ≤ m ∧ itU up' k x = some i
  · obtain ⟨k, hk, hki⟩ := hh
    have e1 : itU up' (k + (m + 1)) x = itU up' (m + 1) i := by rw [itU_add, hki]; rfl
    have e2 : itU up' ((m + 1) + k) x = some i := by rw [itU_add, hc]; exact hki
    rw [Nat.add_comm, e2] at e1
    have e3 : itU up' (m + 1) i = itU up' m area := by
      show (up' i).bind (itU up' m) = _
      rw [h2]
      rfl
    rw [e3, hA] at e1
    exact hno m e1.symm
  · have hsame : ∀ k, k ≤ m + 1 → itU up' k x = itU up k x := by
      intro k
      induction k with
      | zero => intro _; rfl
      | succ k ih =>
        intro hk
        rw [itU_s, itU_s, ← ih (by omega)]
        cases hz : itU up' k x with
        | none => rfl
        | some z => exact h3 z (fun q => hh ⟨k, by omega, by rw [hz, q]⟩)
    rw [hsame (m + 1) (Nat.le_refl _)] at hc
    exact hac x m hx hc
theorem bel_iff {up : Nat → Option Nat} {N t : Nat} (hN : N ≤ 30) (ht : t < N) (hup : ∀ i, i < N → ∀ j, up i = some j → j < N) (m : Nat) : ∀ a, a < N → (belF up (i32 t) m (some a) = true ↔ ∃ k, k < m ∧ itU up k a = some t) := by
  induction m with
  | zero => intro a ha; exact ⟨fun q => (by cases q), fun ⟨k, hk, _⟩ => absurd hk (Nat.not_lt_zero k)⟩
  | succ m ih =>
    intro a ha
    show ((if i32 a = i32 t then true else belF up (i32 t) m (up a)) = true ↔ _)
    by_cases hq : i32 a = i32 t
    · rw [if_pos hq]
      have : a = t := (i32_inj (by omega) (by omega)).mp hq
      exact ⟨fun _ => ⟨0, by omega, by rw [this]; rfl⟩, fun _ => rfl⟩
    · rw [if_neg hq]
      cases hu : up a with
      | none =>
        refine ⟨fun q => (by cases m <;> cases q), fun ⟨k, hk, hk2⟩ => ?_⟩
        cases k with
        | zero => cases hk2; exact absurd rfl hq
        | succ k =>
          have hk2 : (up a).bind (itU up k) = some t := hk2
          rw [hu] at hk2
          cases hk2
      | some p =>
        rw [ih p (hup a ha p hu)]
        constructor
        · rintro ⟨k, hk, hk2⟩
          refine ⟨k + 1, by omega, ?_⟩
          show (up a).bind (itU up k) = some t
          rw [hu]
          exact hk2
        · rintro ⟨k, hk, hk2⟩
          cases k with
          | zero => cases hk2; exact absurd rfl hq
          | succ k =>
            have hk2 : (up a).bind (itU up k) = some t := hk2
            rw [hu] at hk2
            exact ⟨k, by omega, hk2⟩
