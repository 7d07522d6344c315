/-! errors -/
theorem InvR.scr {ro : Nat → Nat} {b c v : Nat} {ρ ρ' : RS} {μ : Mem} (h : InvR ro b c v ρ μ) (hi : ∀ k, k = 1 ∨ k = 18 ∨ k = 21 ∨ k = 36 → ri ρ' k = ri ρ k) (s : ∀ j, j < 38 → ra ρ' j = ra ρ j) : InvR ro b c v ρ' μ := by
  obtain ⟨N, pl, lPl, aX, aY, nc, rt, aT, nt, lC, aW, hH, eE, rR, an, h1, h2, h3, h4, h5, h6, h7, h8, h9, h10⟩ := h
  exact ⟨N, pl, lPl, aX, aY, nc, rt, aT, nt, lC, aW, hH, eE, rR, an, h1, h2.same (hi 1 (by decide)) (s _ (by decide)) (s _ (by decide)) (s _ (by decide)) (s _ (by decide)) (s _ (by decide)) (s _ (by decide)) (s _ (by decide)) (s _ (by decide)) (s _ (by decide)) (s _ (by decide)) (s _ (by decide)) (s _ (by decide)) (s _ (by decide)) (s _ (by decide)) (s _ (by decide)) (s _ (by decide)), h3.same (fun i _ => congrFun (s 4 (by decide)) i) (fun i _ => congrFun (s 9 (by decide)) i) (s _ (by decide)) (s _ (by decide)) (s _ (by decide)) (s _ (by decide)), h4.same (hi 18 (by decide)) (s _ (by decide)) (s _ (by decide)), h5.same (s _ (by decide)) (s _ (by decide)) (s _ (by decide)), h6.same (hi 21 (by decide)) (s _ (by decide)), h7.same (s _ (by decide)) (s _ (by decide)) (s _ (by decide)) (s _ (by decide)) (s _ (by decide)) (s _ (by decide)) (s _ (by decide)), h8.same (s _ (by decide)) (s _ (by decide)) (s _ (by decide)) (s _ (by decide)) (s _ (by decide)) (s _ (by decide)) (s _ (by decide)) (s _ (by decide)) (s _ (by decide)) (s _ (by decide)) (s _ (by decide)) (s _ (by decide)) (s _ (by decide)), h9.same (hi 36 (by decide)) (s _ (by decide)), h10⟩
theorem call_errors {b c v : Nat} {ρ : RS} {μ : Mem} (hI : Invt b c v ρ μ) (hov : ov b ρ μ = μ) (x y : Int32) : CallI (S_P_errors (some c) x y) (R_M_errors x y) [(4, 1)] b c v ρ μ := by
  have hI0 := hI
  obtain ⟨ro, hIR⟩ := hI
  have hIR0 := hIR
  obtain ⟨N, pl, lPl, aX, aY, nc, rt, aT, nt, lC, aW, hH, eE, rR, an, h1, h2, h3, h4, h5, h6, h7, h8, h9, h10, h11, h12, h13, h14, h15, h16⟩ := hIR
  have h2' := h2
  obtain ⟨g1, g2, g3, g4⟩ := h2
  obtain ⟨t1, t2, f, t3, t4, t5⟩ := h6
  have hR44 : ∀ a b : Int32, RB_M_errors_44 a b ρ = some (0, rpI ρ 0 1) := fun _ _ => rfl
  by_cases hx : 0 ≤ x ∧ x < i32 N
  case neg =>
    refine .inr ⟨4, m_up μ, 1, 0, rpI ρ 0 1, ?_, by decide, ?_, rfl, by decide, hI0.code 1⟩
    · unfold S_P_errors B_P_errors_32
      rw [rc_at h1.up.1, b1_some, P_placeOf_eq (μ := m_up μ) h1.up h2' x, b1_some, if_neg hx, if_pos rfl]
    · unfold R_M_errors
      rw [R_isPlace g1 g2, b1_some, if_pos (bI_neg hx), hR44]
  obtain ⟨i, rfl, hi⟩ := id_of g2 hx
  obtain ⟨sh, sd, nm, lk, q1, q2, q3, q4⟩ := g4 i hi
  obtain ⟨n, na, d1, d2, d3, d4⟩ := q3
  have hR28 : R_M_errors (i32 i) y ρ = if (0 ≤ y ∧ y ≤ i32 n - 1) ∧ nt ≠ 0 then RB_M_errors_49 (i32 i) y 0 ρ else some (0, rpI ρ 0 1) := by
    unfold R_M_errors
    rw [R_isPlace g1 g2, b1_some, if_neg (by rw [bI_pos hx]; decide), b1_some, if_neg (by rw [bI_pos hx]; decide)]
    unfold RB_M_errors_28
    rw [rgI_at (by omega) (by decide), d1, b1_some, R_in, b1_some, hR44, t1]
    by_cases hy : 0 ≤ y ∧ y ≤ i32 n - 1
    · rw [if_neg (by rw [bI_pos hy]; decide)]
      by_cases hnt : nt = 0
      · rw [if_pos (by rw [hnt]; rfl), if_neg (fun q => q.2 hnt)]
      · rw [if_neg (show ¬ i32 nt = 0 from fun q => hnt ((i32_inj (b := 0) (by omega) (by decide)).mp q)), if_pos ⟨hy, hnt⟩]
    · rw [if_pos (bI_neg hy), if_neg (fun q => hy q.1)]
  have hlt : (0 ≤ y ∧ y ≤ i32 n - 1) ↔ (¬ y < 0 ∧ ¬ i32 n ≤ y) := by
    rw [i32_nlt, i32_nle, Int32.le_iff_toInt_le, Int32.le_iff_toInt_le, Int32.lt_iff_toInt_lt]
    have e1 : (i32 n).toInt = n := i32_int (by omega)
    have e2 : (1 : Int32).toInt = 1 := rfl
    have : (i32 n - 1).toInt = (n : Int) - 1 := by rw [sub_int (by rw [e1, e2]; omega) (by rw [e1, e2]; omega), e1, e2]
    rw [this, e1]
    omega
  by_cases hgood : (0 ≤ y ∧ y ≤ i32 n - 1) ∧ nt ≠ 0
  case neg =>
    refine .inr ⟨4, m_up μ, 1, 0, rpI ρ 0 1, ?_, by decide, ?_, rfl, by decide, hI0.code 1⟩
    · unfold S_P_errors B_P_errors_32
      rw [rc_at h1.up.1, b1_some, P_placeOf_eq (μ := m_up μ) h1.up h2' _, b1_some, if_pos hx, if_neg (some_ne _), i32_nat (by omega)]
      by_cases hy0 : y < 0
      · rw [if_pos hy0]
      · rw [if_neg hy0, gR_at q1.up.1 rfl, b1_some, AR.rc (μ := m_up μ) d3, b1_some, AR.size (μ := m_up μ) d3, b1_some]
        by_cases hyn : i32 n ≤ y
        · rw [if_pos hyn]
        · have hnt : nt = 0 := Decidable.byContradiction (fun q => hgood ⟨hlt.mpr ⟨hy0, hyn⟩, q⟩)
          rw [if_neg hyn, gI_at h1.up.1 rfl, b1_some, if_pos (by rw [hnt]; rfl)]
    · rw [hR28, if_neg hgood]
  obtain ⟨hy0, hyn⟩ := hlt.mp hgood.1
  obtain ⟨k, rfl, hk⟩ := i32_pos hy0
  have hkn : k < n := by
    rcases Nat.lt_or_ge k n with q | q
    · exact q
    · exact absurd ((i32_le (by omega) hk).mpr q) hyn
  obtain ⟨len, ⟨wo, na1, na2⟩, l2, l3, l4⟩ := d4 k hkn
  obtain ⟨μ', s1, fr, n1, ⟨fs, hc⟩, hwo⟩ := Wo_init_eq h15 t3.1 t4 t5
  have hwo := hwo (roN ro (mN μ) (fun _ => 0)) (fun a ha _ => roN_new ha)
  have e0 : Ext (fun q => False) ro μ (roN ro (mN μ) (fun _ => 0)) μ' := fr.ext h15 ro _
  have p1 := Is.old h1 h15 0 (.inr (10, [.null, .int 0]))
  generalize roN ro (mN μ) (fun _ => 0) = ro1 at *
  have w1 := e0.wf
  have lo1 := e0.lo h15 h16
  have hI1 : InvR ro1 b c v ρ μ' := hIR0.ext e0 (fun r _ q => q)
  have d3a := d3.ext e0 (fun q => q) (fun q => q)
  have q1a := q1.ext e0 (fun q => q)
  have na1a := na1.ext e0 (fun q => q)
  have hEa := h10.ext e0 (fun q => q) (fun i _ q => q)
  obtain ⟨o1, o2, o3⟩ := fo_ok t5
  obtain ⟨μ2, s2, e2, hE2⟩ := Ec_count_eq w1 lo1 hEa hwo (na2.ext e0 (fun q => q))
  have nW : ∀ r, ¬ (20 ≤ r ∧ r < 31) → ¬ WR r := fun r h q => h q
  obtain ⟨wf, r1, r2⟩ := R_foldTyped_eq (ρ := rpI ρ 0 0) t5 t1 (fun k _ => rfl)
  have hlen13 : rlen 13 = 600 := rfl
  obtain ⟨g, r3⟩ := R_errorsTo_eq (ρ := fQ (rpI ρ 0 0) (foL (ra ρ 22) nt) wf) (v1 := 13) (at' := 10 * (2 * i + k)) (p := foL (ra ρ 22) nt) (q := len) (w := foW (ra ρ 22) nt) (u := fun j => ra ρ 13 (10 * (2 * i + k) + j)) (by decide) rfl (fun j hj => r2 j hj) (fun j hj => rfl) (by rw [hlen13]; have := l4.1; omega) (by decide) o2.1 l4.1
  refine .inl ⟨i32 (errE (foW (ra ρ 22) nt) (fun j => ra ρ 13 (10 * (2 * i + k) + j)) (foL (ra ρ 22) nt) len), μ2, rset (fQ (rpI ρ 0 0) (foL (ra ρ 22) nt) wf) 40 g, ?_, ov_keep (ov_keep hov h14 e0 (fun q => q)) hI1.ib e2 (nW 1 (by omega)), ?_, rfl, ⟨ro1, ?_⟩⟩
  · have v1 : gR μ (some (pl i)) 7 5 = some (some nm) := gR_at q1.1 rfl
    have v2 : gI μ (some c) 11 6 = some (i32 nt) := gI_at h1.1 rfl
    have v3 : gR μ (some c) 11 10 = some (some eE) := gR_at h1.1 rfl
    have v4 : gR μ' (some (pl i)) 7 5 = some (some nm) := gR_at q1a.1 rfl
    have v5 : rc μ' (some eE) 3 = some () := by
      obtain ⟨lt, fr, rr, z1, _⟩ := hEa
      exact rc_at z1.1
    unfold S_P_errors
    rw [rc_at h1.1, b1_some, P_placeOf_eq h1 h2', b1_some, if_pos hx, if_neg (some_ne _), i32_nat (by omega), if_neg hy0, v1, b1_some, d3.rc, b1_some, d3.size, b1_some, if_neg hyn, v2, b1_some, if_neg (show ¬ i32 nt = 0 from fun q => hgood.2 ((i32_inj (b := 0) (by omega) (by decide)).mp q)), v3, b1_some, nO_eq, b2_some, gR_at p1.1 rfl, b1_some, gI_at p1.1 rfl, b1_some, rc_at (push_at _ _), b1_some, s1, b2_some, v4, b1_some, d3a.rc, b1_some, d3a.get hkn, b1_some, cK_at na1a.1, b1_some, gR_at na1a.1 rfl, b1_some, v5, b1_some, s2, b2_some]
  · rw [hR28, if_pos hgood]
    unfold RB_M_errors_49
    rw [b0_eq, if_pos (show ri (rpI ρ 0 0) 0 ≤ 0 from by show (0 : Int32) ≤ 0; decide), r1]
    show b0 ((2 * i32 i) + i32 k) (fun x70 => b1 (rgI (fQ (rpI ρ 0 0) (foL (ra ρ 22) nt) wf) 12 60 x70) (fun x85 => c2 (R_M_errorsTo 13 (10 * x70) x85 (fQ (rpI ρ 0 0) (foL (ra ρ 22) nt) wf)) (fun x86 ρ86 => some (x86, ρ86)))) = _
    rw [b0_eq, i32_2, rgI_at (by omega) (by decide), show ra (fQ (rpI ρ 0 0) (foL (ra ρ 22) nt) wf) 12 (2 * i + k) = i32 len from l2, b1_some, show (10 : Int32) * i32 (2 * i + k) = i32 (10 * (2 * i + k)) from i32_mul 10 _, r3]
    rfl
  · refine InvR.scr (ρ := ρ) ?_ (fun k hk => by rcases hk with h | h | h | h <;> subst h <;> rfl) (fun j hj => ?_)
    · obtain ⟨N', pl', lPl', aX', aY', nc', rt', aT', nt', lC', aW', hH', eE', rR', an', k1, k2, k3, k4, k5, k6, k7, k8, k9, k10, k11, k12, k13, k14, k15, k16⟩ := hI1
      have heq : eE' = eE := by
        have z1 := (h1.ext e0 (fun q => q)).1
        rw [k1.1] at z1
        unfold PFc at z1
        injection z1 with z1
        injection z1 with z1
        injection z1 with _ z1
        simp at z1
        exact z1.2.2.2.2.2.2.2.2.2.2.1
      subst heq
      exact ⟨N', pl', lPl', aX', aY', nc', rt', aT', nt', lC', aW', hH', eE', rR', an', k1.ext e2 (nW _ (by omega)), k2.ext e2 (fun q hq => nW _ (by omega)), k3, k4.ext e2 (nW _ (by omega)) (nW _ (by omega)), k5.ext e2 (nW _ (by omega)), k6.ext e2 (nW _ (by omega)), k7.ext e2 (nW _ (by omega)) (nW _ (by omega)) (nW _ (by omega)), k8.ext e2 (fun q hq => nW _ (by omega)), k9.ext e2 (nW _ (by omega)) (nW _ (by omega)) (nW _ (by omega)), hE2, k11.ext e2 (nW _ (by omega)), k12.ext e2 (nW _ (by omega)), k13.ext e2 (nW _ (by omega)), k14.ext e2, e2.wf, e2.lo k15 k16⟩
    · show va_up (va_up (ra ρ) 39 wf) 40 g j = _
      rw [va_up_ne _ _ (by omega), va_up_ne _ _ (by omega)]
