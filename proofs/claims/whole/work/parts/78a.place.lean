/-! new Place -/
theorem Fr.pv {μ0 μ : Mem} (w : WF μ0) (f : Fr (mN μ0) μ0 μ) {A k ci : Nat} {fs : List Value} (hA : mN μ0 ≤ A) (h : mF μ A = some (.inr (ci, fs))) (hk : k < fs.length) (v : TV) : pV μ (some A) ci k v = some (m_set μ A (.inr (ci, fs.set k (tv v)))) ∧ Fr (mN μ0) μ0 (m_set μ A (.inr (ci, fs.set k (tv v)))) := by
  refine ⟨pV_at v h ?_ hk, f.set hA h _⟩
  rw [f.2.1]
  exact Nat.le_trans w.1.2 hA
theorem Fr.mdD {n0 : Nat} {μ0 μ : Mem} (f : Fr n0 μ0 μ) : mD μ = mD μ0 := congrArg (·.1) f.1
theorem Fr.list {μ0 μ : Mem} (w : WF μ0) (f : Fr (mN μ0) μ0 μ) : ∃ μ', (∀ (α : Type) (K : Option Nat → Unit → Mem → Option α), b2 (nO μ 0 [.null, .int 0, .int 0]) (fun x m => b1 (rc m x 0) (fun _ => b2 (S_Al_init x m) (K x))) = K (some (mN μ)) () μ') ∧ Fr (mN μ0) μ0 μ' ∧ mF μ' (mN μ) = some (.inr (0, [.ref (mD μ0), .int 0, .int 0])) ∧ mN μ' = mN μ + 1 ∧ ∀ a, a ≠ mN μ → mF μ' a = mF μ a := by
  have f1 := f.push f.2.2.1 (.inr (0, [.null, .int 0, .int 0]))
  have c1 := push_at μ (.inr (0, [.null, .int 0, .int 0]))
  refine ⟨m_set (m_push μ (.inr (0, [.null, .int 0, .int 0]))) (mN μ) (.inr (0, [.ref (mD μ0), .int 0, .int 0])), fun α K => ?_, f1.set f.2.2.1 c1 _, set_at _ _ _, rfl, fun a ha => (set_ne _ _ ha).trans (push_ne _ _ ha)⟩
  show b1 (rc (m_push μ (.inr (0, [.null, .int 0, .int 0]))) (some (mN μ)) 0) (fun _ => b2 (S_Al_init (some (mN μ)) (m_push μ (.inr (0, [.null, .int 0, .int 0])))) (K (some (mN μ)))) = _
  rw [rc_at c1, b1_some, Al_init_eq c1 (by rw [f1.2.1]; exact Nat.le_trans w.1.2 f.2.2.1), b2_some, f1.mdD]
theorem Pl_init_eq {μ : Mem} (w : WF μ) (num kind : Int32) : ∃ μ', S_Pl_init (some (mN μ)) num kind (m_push μ (.inr (7, [.int 0, .int 0, .int 0, .null, .null, .null, .null]))) = some ((), μ') ∧ Fr (mN μ) μ μ' ∧ mF μ' (mN μ) = some (.inr (7, PC7 num kind 10000 (mN μ + 1) (mN μ + 2) (mN μ + 3) (mN μ + 4))) ∧ mF μ' (mN μ + 1) = some (.inr (0, [.ref (mD μ), .int 0, .int 0])) ∧ mF μ' (mN μ + 2) = some (.inl (0, 3, .inl (fun _ => 0))) ∧ mF μ' (mN μ + 3) = some (.inr (0, [.ref (mD μ), .int 0, .int 0])) ∧ mF μ' (mN μ + 4) = some (.inr (0, [.ref (mD μ), .int 0, .int 0])) := by
  have f1 : Fr (mN μ) μ (m_push μ (.inr (7, [.int 0, .int 0, .int 0, .null, .null, .null, .null]))) := (Fr.rf w).push (Nat.le_refl _) _
  have c1 := push_at μ (.inr (7, [.int 0, .int 0, .int 0, .null, .null, .null, .null]))
  have n1 : mN (m_push μ (.inr (7, [.int 0, .int 0, .int 0, .null, .null, .null, .null]))) = mN μ + 1 := rfl
  unfold S_Pl_init
  rw [rc_at c1, b1_some]
  generalize m_push μ (.inr (7, [.int 0, .int 0, .int 0, .null, .null, .null, .null])) = μ1 at *
  obtain ⟨p2, f2⟩ := f1.pv w (Nat.le_refl _) c1 (show 2 < 7 by decide) (vI 10000)
  rw [p2, b1_some]
  have c2 : mF (m_set μ1 (mN μ) (.inr (7, [.int 0, .int 0, .int 10000, .null, .null, .null, .null]))) (mN μ) = some (.inr (7, [.int 0, .int 0, .int 10000, .null, .null, .null, .null])) := set_at _ _ _
  have n2 : mN (m_set μ1 (mN μ) (.inr (7, [.int 0, .int 0, .int 10000, .null, .null, .null, .null]))) = mN μ + 1 := n1
  simp only [List.set, tv] at f2 ⊢
  generalize m_set μ1 (mN μ) (.inr (7, [.int 0, .int 0, .int 10000, .null, .null, .null, .null])) = μ2 at *
  obtain ⟨μ3, e3, f3, l3, n3, o3⟩ := Fr.list w f2
  rw [e3]
  rw [n2] at l3 n3 o3 ⊢
  have c3 := (o3 (mN μ) (by omega)).trans c2
  obtain ⟨p4, f4⟩ := f3.pv w (Nat.le_refl _) c3 (show 3 < 7 by decide) (vR (some (mN μ + 1)))
  rw [p4, b1_some]
  simp only [List.set, tv, va_rf] at f4 ⊢
  have c4 : mF (m_set μ3 (mN μ) (.inr (7, [.int 0, .int 0, .int 10000, .ref (mN μ + 1), .null, .null, .null]))) (mN μ) = some (.inr (7, [.int 0, .int 0, .int 10000, .ref (mN μ + 1), .null, .null, .null])) := set_at _ _ _
  have l4 : mF (m_set μ3 (mN μ) (.inr (7, [.int 0, .int 0, .int 10000, .ref (mN μ + 1), .null, .null, .null]))) (mN μ + 1) = _ := (set_ne _ _ (by omega)).trans l3
  have n4 : mN (m_set μ3 (mN μ) (.inr (7, [.int 0, .int 0, .int 10000, .ref (mN μ + 1), .null, .null, .null]))) = mN μ + 2 := n3
  generalize m_set μ3 (mN μ) (.inr (7, [.int 0, .int 0, .int 10000, .ref (mN μ + 1), .null, .null, .null])) = μ4 at *
  rw [show nI_ μ4 0 3 3 = some (some (mN μ4), m_push μ4 (.inl (0, 3, .inl (fun _ => 0)))) from nI_at (n := 3) (by decide) (by decide), b2_some, n4]
  have f5 := f4.push f4.2.2.1 (.inl (0, 3, .inl (fun _ => 0)))
  have c5 : mF (m_push μ4 (.inl (0, 3, .inl (fun _ => 0)))) (mN μ) = _ := (push_ne _ _ (by omega)).trans c4
  have l5 : mF (m_push μ4 (.inl (0, 3, .inl (fun _ => 0)))) (mN μ + 1) = _ := (push_ne _ _ (by omega)).trans l4
  have d5 : mF (m_push μ4 (.inl (0, 3, .inl (fun _ => 0)))) (mN μ + 2) = some (.inl (0, 3, .inl (fun _ => 0))) := by rw [← n4]; exact push_at _ _
  have n5 : mN (m_push μ4 (.inl (0, 3, .inl (fun _ => 0)))) = mN μ + 3 := by show mN μ4 + 1 = _; omega
  generalize m_push μ4 (.inl (0, 3, .inl (fun _ => 0))) = μ5 at *
  obtain ⟨p6, f6⟩ := f5.pv w (Nat.le_refl _) c5 (show 4 < 7 by decide) (vR (some (mN μ + 2)))
  rw [p6, b1_some]
  simp only [List.set, tv, va_rf] at f6 ⊢
  have c6 : mF (m_set μ5 (mN μ) (.inr (7, [.int 0, .int 0, .int 10000, .ref (mN μ + 1), .ref (mN μ + 2), .null, .null]))) (mN μ) = some (.inr (7, [.int 0, .int 0, .int 10000, .ref (mN μ + 1), .ref (mN μ + 2), .null, .null])) := set_at _ _ _
  have l6 : mF (m_set μ5 (mN μ) (.inr (7, [.int 0, .int 0, .int 10000, .ref (mN μ + 1), .ref (mN μ + 2), .null, .null]))) (mN μ + 1) = _ := (set_ne _ _ (by omega)).trans l5
  have d6 : mF (m_set μ5 (mN μ) (.inr (7, [.int 0, .int 0, .int 10000, .ref (mN μ + 1), .ref (mN μ + 2), .null, .null]))) (mN μ + 2) = _ := (set_ne _ _ (by omega)).trans d5
  have n6 : mN (m_set μ5 (mN μ) (.inr (7, [.int 0, .int 0, .int 10000, .ref (mN μ + 1), .ref (mN μ + 2), .null, .null]))) = mN μ + 3 := n5
  generalize m_set μ5 (mN μ) (.inr (7, [.int 0, .int 0, .int 10000, .ref (mN μ + 1), .ref (mN μ + 2), .null, .null])) = μ6 at *
  obtain ⟨μ7, e7, f7, l7, n7, o7⟩ := Fr.list w f6
  rw [e7]
  rw [n6] at l7 n7 o7 ⊢
  have c7 := (o7 (mN μ) (by omega)).trans c6
  have m7 := (o7 (mN μ + 1) (by omega)).trans l6
  have d7 := (o7 (mN μ + 2) (by omega)).trans d6
  obtain ⟨p8, f8⟩ := f7.pv w (Nat.le_refl _) c7 (show 5 < 7 by decide) (vR (some (mN μ + 3)))
  rw [p8, b1_some]
  simp only [List.set, tv, va_rf] at f8 ⊢
  have c8 : mF (m_set μ7 (mN μ) (.inr (7, [.int 0, .int 0, .int 10000, .ref (mN μ + 1), .ref (mN μ + 2), .ref (mN μ + 3), .null]))) (mN μ) = some (.inr (7, [.int 0, .int 0, .int 10000, .ref (mN μ + 1), .ref (mN μ + 2), .ref (mN μ + 3), .null])) := set_at _ _ _
  have m8 : mF (m_set μ7 (mN μ) (.inr (7, [.int 0, .int 0, .int 10000, .ref (mN μ + 1), .ref (mN μ + 2), .ref (mN μ + 3), .null]))) (mN μ + 1) = _ := (set_ne _ _ (by omega)).trans m7
  have d8 : mF (m_set μ7 (mN μ) (.inr (7, [.int 0, .int 0, .int 10000, .ref (mN μ + 1), .ref (mN μ + 2), .ref (mN μ + 3), .null]))) (mN μ + 2) = _ := (set_ne _ _ (by omega)).trans d7
  have l8 : mF (m_set μ7 (mN μ) (.inr (7, [.int 0, .int 0, .int 10000, .ref (mN μ + 1), .ref (mN μ + 2), .ref (mN μ + 3), .null]))) (mN μ + 3) = _ := (set_ne _ _ (by omega)).trans l7
  have n8 : mN (m_set μ7 (mN μ) (.inr (7, [.int 0, .int 0, .int 10000, .ref (mN μ + 1), .ref (mN μ + 2), .ref (mN μ + 3), .null]))) = mN μ + 4 := n7
  generalize m_set μ7 (mN μ) (.inr (7, [.int 0, .int 0, .int 10000, .ref (mN μ + 1), .ref (mN μ + 2), .ref (mN μ + 3), .null])) = μ8 at *
  obtain ⟨μ9, e9, f9, l9, n9, o9⟩ := Fr.list w f8
  rw [e9]
  rw [n8] at l9 n9 o9 ⊢
  have c9 := (o9 (mN μ) (by omega)).trans c8
  have m9 := (o9 (mN μ + 1) (by omega)).trans m8
  have d9 := (o9 (mN μ + 2) (by omega)).trans d8
  have q9 := (o9 (mN μ + 3) (by omega)).trans l8
  obtain ⟨pa, fa⟩ := f9.pv w (Nat.le_refl _) c9 (show 6 < 7 by decide) (vR (some (mN μ + 4)))
  rw [pa, b1_some]
  simp only [List.set, tv, va_rf] at fa ⊢
  have ca : mF (m_set μ9 (mN μ) (.inr (7, [.int 0, .int 0, .int 10000, .ref (mN μ + 1), .ref (mN μ + 2), .ref (mN μ + 3), .ref (mN μ + 4)]))) (mN μ) = some (.inr (7, [.int 0, .int 0, .int 10000, .ref (mN μ + 1), .ref (mN μ + 2), .ref (mN μ + 3), .ref (mN μ + 4)])) := set_at _ _ _
  obtain ⟨pb, fb⟩ := fa.pv w (Nat.le_refl _) ca (show 0 < 7 by decide) (vI num)
  rw [pb, b1_some]
  simp only [List.set, tv, va_rf, set_set] at fb ⊢
  have cb : mF (m_set μ9 (mN μ) (.inr (7, [.int num, .int 0, .int 10000, .ref (mN μ + 1), .ref (mN μ + 2), .ref (mN μ + 3), .ref (mN μ + 4)]))) (mN μ) = some (.inr (7, [.int num, .int 0, .int 10000, .ref (mN μ + 1), .ref (mN μ + 2), .ref (mN μ + 3), .ref (mN μ + 4)])) := set_at _ _ _
  obtain ⟨pc, fc⟩ := fb.pv w (Nat.le_refl _) cb (show 1 < 7 by decide) (vI kind)
  rw [pc, b1_some]
  simp only [List.set, tv, va_rf, set_set] at fc ⊢
  exact ⟨_, rfl, fc, set_at _ _ _, (set_ne _ _ (by omega)).trans m9, (set_ne _ _ (by omega)).trans d9, (set_ne _ _ (by omega)).trans q9, (set_ne _ _ (by omega)).trans l9⟩
