/-! new Corners -/
theorem Co_init_eq {μ : Mem} {ax ay nx ny n : Nat} {fx fy : Nat → Int32} (w : WF μ) (hx : mF μ ax = some (.inl (0, nx, .inl fx))) (hy : mF μ ay = some (.inl (0, ny, .inl fy))) (hDx : ax ≠ mD μ) (hDy : ay ≠ mD μ) (hnx : n ≤ nx) (hny : n ≤ ny) (hx8 : nx ≤ 8) (hy8 : ny ≤ 8) : ∃ μ', S_Co_init (some (mN μ)) (some ax) (some ay) (i32 n) (m_push μ (.inr (2, [.int 0, .null, .null]))) = some ((), μ') ∧ Fr (mN μ) μ μ' ∧ ∀ ro : Nat → Nat, CO0 (roN ro (mN μ) (fun _ => 0)) μ' (mN μ) n fx fy := by
  have f1 : Fr (mN μ) μ (m_push μ (.inr (2, [.int 0, .null, .null]))) := (Fr.rf w).push (Nat.le_refl _) _
  have c1 := push_at μ (.inr (2, [.int 0, .null, .null]))
  have x1 := (f1.2.2.2.2 ax (w.lt hx)).trans hx
  have y1 := (f1.2.2.2.2 ay (w.lt hy)).trans hy
  have n1 : mN (m_push μ (.inr (2, [.int 0, .null, .null]))) = mN μ + 1 := rfl
  unfold S_Co_init
  rw [rc_at c1, b1_some]
  generalize m_push μ (.inr (2, [.int 0, .null, .null])) = μ1 at *
  have wl : mW μ1 ≤ mN μ := by rw [f1.2.1]; exact w.1.2
  have p1 : pV μ1 (some (mN μ)) 2 0 (vI (i32 n)) = some (m_set μ1 (mN μ) (.inr (2, [.int (i32 n), .null, .null]))) := pV_at _ c1 wl (show 0 < 3 by decide)
  rw [p1, b1_some]
  have f2 : Fr (mN μ) μ (m_set μ1 (mN μ) (.inr (2, [.int (i32 n), .null, .null]))) := f1.set (Nat.le_refl _) c1 _
  have c2 : mF (m_set μ1 (mN μ) (.inr (2, [.int (i32 n), .null, .null]))) (mN μ) = some (.inr (2, [.int (i32 n), .null, .null])) := set_at _ _ _
  have n2 : mN (m_set μ1 (mN μ) (.inr (2, [.int (i32 n), .null, .null]))) = mN μ + 1 := n1
  generalize m_set μ1 (mN μ) (.inr (2, [.int (i32 n), .null, .null])) = μ2 at *
  have x2 := (f2.2.2.2.2 ax (w.lt hx)).trans hx
  have y2 := (f2.2.2.2.2 ay (w.lt hy)).trans hy
  obtain ⟨μ3, gx, q1, q2, q3, q4, q5⟩ := As_copyOf_eq (n := n) f2.wf x2 (by rw [show mD μ2 = mD μ from congrArg (·.1) f2.1]; exact hDx) hnx hx8
  rw [q1, b2_some, n2]
  rw [n2] at q2 q3 q5
  have c3 : mF μ3 (mN μ) = some (.inr (2, [.int (i32 n), .null, .null])) := (q2.2.2.2.2 _ (by omega)).trans c2
  have f3 : Fr (mN μ) μ μ3 := f2.tr ⟨q2.1, q2.2.1, by rw [n2]; omega, q2.2.2.2.1, fun a ha => q2.2.2.2.2 a (by omega)⟩
  have wl3 : mW μ3 ≤ mN μ := by rw [f3.2.1]; exact w.1.2
  have p3 : pV μ3 (some (mN μ)) 2 1 (vR (some (mN μ + 1))) = some (m_set μ3 (mN μ) (.inr (2, [.int (i32 n), .ref (mN μ + 1), .null]))) := pV_at _ c3 wl3 (show 1 < 3 by decide)
  rw [p3, b1_some]
  have f4 : Fr (mN μ) μ (m_set μ3 (mN μ) (.inr (2, [.int (i32 n), .ref (mN μ + 1), .null]))) := f3.set (Nat.le_refl _) c3 _
  have c4 : mF (m_set μ3 (mN μ) (.inr (2, [.int (i32 n), .ref (mN μ + 1), .null]))) (mN μ) = some (.inr (2, [.int (i32 n), .ref (mN μ + 1), .null])) := set_at _ _ _
  have d4 : mF (m_set μ3 (mN μ) (.inr (2, [.int (i32 n), .ref (mN μ + 1), .null]))) (mN μ + 1) = some (.inl (0, n, .inl gx)) := (set_ne _ _ (by omega)).trans q3
  have n4 : mN (m_set μ3 (mN μ) (.inr (2, [.int (i32 n), .ref (mN μ + 1), .null]))) = mN μ + 2 := q5
  generalize m_set μ3 (mN μ) (.inr (2, [.int (i32 n), .ref (mN μ + 1), .null])) = μ4 at *
  have y4 := (f4.2.2.2.2 ay (w.lt hy)).trans hy
  obtain ⟨μ5, gy, r1, r2, r3, r4, r5⟩ := As_copyOf_eq (n := n) f4.wf y4 (by rw [show mD μ4 = mD μ from congrArg (·.1) f4.1]; exact hDy) hny hy8
  rw [r1, b2_some, n4]
  rw [n4] at r2 r3 r5
  have c5 : mF μ5 (mN μ) = some (.inr (2, [.int (i32 n), .ref (mN μ + 1), .null])) := (r2.2.2.2.2 _ (by omega)).trans c4
  have d5 := (r2.2.2.2.2 _ (by omega)).trans d4
  have f5 : Fr (mN μ) μ μ5 := f4.tr ⟨r2.1, r2.2.1, by rw [n4]; omega, r2.2.2.2.1, fun a ha => r2.2.2.2.2 a (by omega)⟩
  have wl5 : mW μ5 ≤ mN μ := by rw [f5.2.1]; exact w.1.2
  have p5 : pV μ5 (some (mN μ)) 2 2 (vR (some (mN μ + 2))) = some (m_set μ5 (mN μ) (.inr (2, [.int (i32 n), .ref (mN μ + 1), .ref (mN μ + 2)]))) := pV_at _ c5 wl5 (show 2 < 3 by decide)
  rw [p5, b1_some]
  refine ⟨_, rfl, f5.set (Nat.le_refl _) c5 _, fun ro => ⟨mN μ + 1, mN μ + 2, gx, gy, ⟨set_at _ _ _, roN_new (Nat.le_refl _)⟩, ⟨(set_ne _ _ (by omega)).trans d5, roN_new (by omega)⟩, ⟨(set_ne _ _ (by omega)).trans r3, roN_new (by omega)⟩, fun k hk => ⟨q4 k hk, r4 k hk⟩, by omega⟩⟩
