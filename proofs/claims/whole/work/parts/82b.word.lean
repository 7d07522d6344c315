/-! new Word -/
theorem set_self {μ : Mem} {a : Nat} {e : ME} (h : mF μ a = some e) : m_set μ a e = μ := by
  show (mE μ, mW μ, mN μ, va_up (mF μ) a (some e)) = μ
  have : va_up (mF μ) a (some e) = mF μ := by
    funext q
    unfold va_up
    split
    · rename_i hq
      rw [hq, h]
    · rfl
  rw [this]
theorem Fr.lower {n0 n1 : Nat} {m1 m2 : Mem} (h : Fr n1 m1 m2) (hn : n0 ≤ n1) : Fr n0 m1 m2 := ⟨h.1, h.2.1, h.2.2.1, h.2.2.2.1, fun a ha => h.2.2.2.2 a (by omega)⟩
theorem Wo_init_eq {μ : Mem} (w : WF μ) {aT n : Nat} {ft t : Nat → Int32} (hT : mF μ aT = some (.inl (2, 10, .inl ft))) (hft : ∀ k, k < n → ft k = t k) (ht : ltr n t) : ∃ μ', S_Wo_init (some (mN μ)) (some aT) (i32 n) (m_push μ (.inr (10, [.null, .int 0]))) = some ((), μ') ∧ Fr (mN μ) μ μ' ∧ mN μ' = mN μ + 2 ∧ (∃ fs, mF μ' (mN μ) = some (.inr (10, fs))) ∧ ∀ ro : Nat → Nat, (∀ a, mN μ ≤ a → a < mN μ + 2 → ro a = 0) → WO0 ro μ' (mN μ) (foL t n) (foW t n) := by
  have hn := ht.1
  have hlt := w.lt hT
  have f1 : Fr (mN μ) μ (m_push μ (.inr (10, [.null, .int 0]))) := (Fr.rf w).push (Nat.le_refl _) _
  have c1 := push_at μ (.inr (10, [.null, .int 0]))
  have n1 : mN (m_push μ (.inr (10, [.null, .int 0]))) = mN μ + 1 := rfl
  unfold S_Wo_init
  rw [rc_at c1, b1_some]
  generalize m_push μ (.inr (10, [.null, .int 0])) = μ1 at *
  rw [nI_at (by omega) (by omega), b2_some, n1]
  have f2 := f1.push f1.2.2.1 (.inl (2, n, .inl (fun _ => 0)))
  have c2 : mF (m_push μ1 (.inl (2, n, .inl (fun _ => 0)))) (mN μ) = _ := (push_ne _ _ (by omega)).trans c1
  have d2 : mF (m_push μ1 (.inl (2, n, .inl (fun _ => 0)))) (mN μ + 1) = some (.inl (2, n, .inl (fun _ => 0))) := by rw [← n1]; exact push_at _ _
  have n2 : mN (m_push μ1 (.inl (2, n, .inl (fun _ => 0)))) = mN μ + 2 := by show mN μ1 + 1 = _; omega
  generalize m_push μ1 (.inl (2, n, .inl (fun _ => 0))) = μ2 at *
  obtain ⟨p3, f3⟩ := f2.pv w (Nat.le_refl _) c2 (show 0 < 2 by decide) (vR (some (mN μ + 1)))
  rw [p3, b1_some]
  simp only [List.set, tv, va_rf] at f3 ⊢
  have c3 : mF (m_set μ2 (mN μ) (.inr (10, [.ref (mN μ + 1), .int 0]))) (mN μ) = some (.inr (10, [.ref (mN μ + 1), .int 0])) := set_at _ _ _
  have d3 : mF (m_set μ2 (mN μ) (.inr (10, [.ref (mN μ + 1), .int 0]))) (mN μ + 1) = _ := (set_ne _ _ (by omega)).trans d2
  have n3 : mN (m_set μ2 (mN μ) (.inr (10, [.ref (mN μ + 1), .int 0]))) = mN μ + 2 := n2
  generalize m_set μ2 (mN μ) (.inr (10, [.ref (mN μ + 1), .int 0])) = μ3 at *
  have t3 := (f3.2.2.2.2 aT hlt).trans hT
  have wl : mW μ3 ≤ mN μ := by rw [f3.2.1]; exact w.1.2
  have hM0 : m_set μ3 (mN μ + 1) (.inl (2, n, .inl (fun _ => 0))) = μ3 := set_self d3
  have hF := Wo_fold (M := fun w => m_set μ3 (mN μ + 1) (.inl (2, n, .inl w))) (A := mN μ) (al := mN μ + 1) (aT := aT) (n := n) (t := t) ht
    (fun w => gR_at ((set_ne _ _ (by omega)).trans c3) rfl)
    (fun w k hk => by rw [aI_at (n := 10) ((set_ne _ _ (by omega)).trans t3) (by omega) (by decide), hft k hk])
    (fun w k hk => aI_at (set_at _ _ _) hk (by omega))
    (fun w k c hk => by
      rw [sI_at c (set_at _ _ _) (show mW μ3 ≤ mN μ + 1 by omega) hk (by omega), set_set])
    n 0 0 fu (fun _ => 0) (by omega) (Nat.le_refl _) (Nat.zero_le _) (by show n < 4096; omega)
  simp only [hM0] at hF
  have c4 : mF (m_set μ3 (mN μ + 1) (.inl (2, n, .inl (foW t n)))) (mN μ) = some (.inr (10, [.ref (mN μ + 1), .int 0])) := (set_ne _ _ (by omega)).trans c3
  have f4 := f3.set (show mN μ ≤ mN μ + 1 by omega) d3 (.inl (2, n, .inl (foW t n)))
  have n4 : mN (m_set μ3 (mN μ + 1) (.inl (2, n, .inl (foW t n)))) = mN μ + 2 := n3
  have d4 := set_at μ3 (mN μ + 1) (.inl (2, n, .inl (foW t n)))
  obtain ⟨p5, f5⟩ := f4.pv w (Nat.le_refl _) c4 (show 1 < 2 by decide) (vI (i32 (foL t n)))
  simp only [List.set, tv] at f5 p5
  refine ⟨m_set (m_set μ3 (mN μ + 1) (.inl (2, n, .inl (foW t n)))) (mN μ) (.inr (10, [.ref (mN μ + 1), .int (i32 (foL t n))])), ?_, f5, n4, ⟨_, set_at _ _ _⟩, fun ro hro => ⟨mN μ + 1, n, foW t n, ⟨set_at _ _ _, hro _ (Nat.le_refl _) (by omega)⟩, ⟨(set_ne _ _ (by omega)).trans d4, hro _ (by omega) (by omega)⟩, (fo_ok ht).1, hn, fun k _ => rfl⟩⟩
  refine Eq.trans hF ?_
  show b1 (pV (m_set μ3 (mN μ + 1) (.inl (2, n, .inl (foW t n)))) (some (mN μ)) 10 1 (vI (i32 (foL t n)))) _ = _
  rw [p5, b1_some]
theorem IT.t {ro : Nat → Nat} {μ : Mem} {ρ : RS} {aT n : Nat} (h : IT ro μ ρ aT n) : ∃ f, mF μ aT = some (.inl (2, 10, .inl f)) ∧ (∀ k, k < n → f k = ra ρ 22 k) ∧ ltr n (ra ρ 22) := by
  obtain ⟨g1, g2, f, g3, g4, g5⟩ := h
  exact ⟨f, g3.1, g4, g5⟩
/-- sound -/
theorem call_sound {b c v : Nat} {ρ : RS} {μ : Mem} (hI : Invt b c v ρ μ) (hov : ov b ρ μ = μ) : CallN (S_P_sound (some c)) R_M_sound b c v ρ μ := by
  obtain ⟨ro, N, pl, lPl, aX, aY, nc, rt, aT, nt, lC, aW, hH, eE, rR, an, h1, h2, h3, h4, h5, h6, h7, h8, h9, h10, h11, h12, h13, h14, h15, h16⟩ := hI
  have h6' := h6
  obtain ⟨g1, g2, f, g3, g4, g5⟩ := h6
  obtain ⟨μ', s1, fr, n1, ⟨fs, hc⟩, hwo⟩ := Wo_init_eq h15 g3.1 g4 g5
  have hwo := hwo (roN ro (mN μ) (fun _ => 0)) (fun a ha _ => roN_new ha)
  have e : Ext (fun q => False) ro μ (roN ro (mN μ) (fun _ => 0)) μ' := fr.ext h15 ro _
  obtain ⟨w, r1, r2⟩ := R_foldTyped_eq (ρ := rpI ρ 0 0) g5 g1 (fun k _ => rfl)
  obtain ⟨o1, o2, o3⟩ := fo_ok g5
  have hIR : InvR (roN ro (mN μ) (fun _ => 0)) b c v ρ μ' := InvR.ext (W := fun _ => False) ⟨N, pl, lPl, aX, aY, nc, rt, aT, nt, lC, aW, hH, eE, rR, an, h1, h2, h3, h4, h5, h6', h7, h8, h9, h10, h11, h12, h13, h14, h15, h16⟩ e (fun r _ q => q)
  have p1 := Is.old h1 h15 0 (.inr (10, [.null, .int 0]))
  have hd := o2.d
  have hs1 := Wo_soundCode_eq hwo.wo hd
  have hs2 : R_M_soundOf (fQ (rpI ρ 0 0) (foL (ra ρ 22) nt) w) = some (sndOf (foL (ra ρ 22) nt) (dgt (foW (ra ρ 22) nt))) := R_soundOf_eq (ρ := fQ (rpI ρ 0 0) (foL (ra ρ 22) nt) w) rfl o2.1 (fun k hk => ⟨(hd k hk).1, (r2 k hk).trans (hd k hk).2⟩)
  refine ⟨sndOf (foL (ra ρ 22) nt) (dgt (foW (ra ρ 22) nt)), μ', fQ (rpI ρ 0 0) (foL (ra ρ 22) nt) w, ?_, ov_keep hov h14 e (fun q => q), ?_, ⟨_, hIR⟩⟩
  · unfold S_P_sound
    show b1 (gR (m_push μ (.inr (10, [.null, .int 0]))) (some c) 11 5) _ = _
    rw [gR_at p1.1 rfl, b1_some, gI_at p1.1 rfl, b1_some, rc_at (push_at _ _), b1_some, s1, b2_some, rc_at hc, b1_some, hs1, b1_some]
  · unfold R_M_sound
    rw [b0_eq, r1]
    show b1 (R_M_soundOf (fQ (rpI ρ 0 0) (foL (ra ρ 22) nt) w)) _ = _
    rw [hs2, b1_some]
