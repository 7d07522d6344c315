/-! watch, the class's side -/
theorem Wa_init_eq {μ : Mem} (w : WF μ) (rt : Nat) (day : Int32) : ∃ μ', S_Wa_init (some (mN μ)) (some rt) day (m_push μ (.inr (9, [.null, .null, .int 0, .int 0]))) = some ((), μ') ∧ Fr (mN μ) μ μ' ∧ mF μ' (mN μ) = some (.inr (9, [.ref (mN μ + 1), .ref rt, .int day, .int 0])) ∧ mF μ' (mN μ + 1) = some (.inr (0, [.ref (mD μ), .int 0, .int 0])) := by
  have f1 : Fr (mN μ) μ (m_push μ (.inr (9, [.null, .null, .int 0, .int 0]))) := (Fr.rf w).push (Nat.le_refl _) _
  have c1 := push_at μ (.inr (9, [.null, .null, .int 0, .int 0]))
  have n1 : mN (m_push μ (.inr (9, [.null, .null, .int 0, .int 0]))) = mN μ + 1 := rfl
  unfold S_Wa_init
  rw [rc_at c1, b1_some]
  generalize m_push μ (.inr (9, [.null, .null, .int 0, .int 0])) = μ1 at *
  obtain ⟨μ3, e3, f3, l3, n3, o3⟩ := Fr.list w f1
  rw [e3]
  rw [n1] at l3 n3 o3 ⊢
  have c3 := (o3 (mN μ) (by omega)).trans c1
  have l : mW μ3 ≤ mN μ := by rw [f3.2.1]; exact w.1.2
  have p4 : pV μ3 (some (mN μ)) 9 0 (vR (some (mN μ + 1))) = some (m_set μ3 (mN μ) (.inr (9, [.ref (mN μ + 1), .null, .int 0, .int 0]))) := pV_at _ c3 l (show 0 < 4 by decide)
  have p5 : pV (m_set μ3 (mN μ) (.inr (9, [.ref (mN μ + 1), .null, .int 0, .int 0]))) (some (mN μ)) 9 3 (vI 0) = some (m_set (m_set μ3 (mN μ) (.inr (9, [.ref (mN μ + 1), .null, .int 0, .int 0]))) (mN μ) (.inr (9, [.ref (mN μ + 1), .null, .int 0, .int 0]))) := pV_at _ (set_at _ _ _) l (show 3 < 4 by decide)
  rw [set_set] at p5
  have p6 : pV (m_set μ3 (mN μ) (.inr (9, [.ref (mN μ + 1), .null, .int 0, .int 0]))) (some (mN μ)) 9 1 (vR (some rt)) = some (m_set (m_set μ3 (mN μ) (.inr (9, [.ref (mN μ + 1), .null, .int 0, .int 0]))) (mN μ) (.inr (9, [.ref (mN μ + 1), .ref rt, .int 0, .int 0]))) := pV_at _ (set_at _ _ _) l (show 1 < 4 by decide)
  rw [set_set] at p6
  have p7 : pV (m_set μ3 (mN μ) (.inr (9, [.ref (mN μ + 1), .ref rt, .int 0, .int 0]))) (some (mN μ)) 9 2 (vI day) = some (m_set (m_set μ3 (mN μ) (.inr (9, [.ref (mN μ + 1), .ref rt, .int 0, .int 0]))) (mN μ) (.inr (9, [.ref (mN μ + 1), .ref rt, .int day, .int 0]))) := pV_at _ (set_at _ _ _) l (show 2 < 4 by decide)
  rw [set_set] at p7
  rw [p4, b1_some, p5, b1_some, p6, b1_some, p7, b1_some]
  exact ⟨_, rfl, f3.set (Nat.le_refl _) c3 _, set_at _ _ _, (set_ne _ _ (by omega)).trans l3⟩
theorem P_wt {c lPl aX aY nc rt aT nt lC aW hH eE rR an A lW r n : Nat} {cq : Nat → Nat} {fs : List Value} {v1 : Int32} (hn : n ≤ 5) (hr : 40 ≤ r) (m : Nat) : ∀ (k fuel : Nat) (ro : Nat → Nat) (μ : Mem), WF μ → LO μ → Is ro μ c 2 (PFc lPl aX aY nc rt aT nt lC aW hH eE rR an) → AR ro μ lC 8 n cq → AR ro μ lW r k cq → (∃ rA, Is ro μ A rA (.inr (9, .ref lW :: fs)) ∧ rA ≠ r ∧ rA ≠ r + 1) → (∀ j, j < n → ∃ fs, Is ro μ (cq j) 0 (.inr (1, fs))) → k + m = n → m < fuel → ∃ ro' μ', B_P_watch_43 fuel (some c) v1 (some A) (i32 k) μ = b1 (gR μ' (some c) 11 8) (fun x82 => b1 (sR μ' x82 5 [9] v1 (some A)) (fun m87 => some (.inr (), m87))) ∧ Ext (fun q => q = r ∨ q = r + 1) ro μ ro' μ' ∧ AR ro' μ' lW r n cq := by
  induction m with
  | zero =>
    intro k fuel ro μ w lo h1 h2 h3 h4 h5 hk hf
    cases fuel with
    | zero => omega
    | succ fuel =>
      refine ⟨ro, μ, ?_, Ext.rf w, by rw [show n = k by omega]; exact h3⟩
      show b1 (gR μ (some c) 11 7) (fun x46 => b1 (rc μ x46 0) (fun _ => b1 (S_Al_size x46 μ) (fun x49 => if x49 ≤ i32 k then b1 (gR μ (some c) 11 8) (fun x82 => b1 (sR μ x82 5 [9] v1 (some A)) (fun m87 => some ((Sum.inr () : Nat ⊕ Unit), m87))) else _))) = _
      rw [gR_at h1.1 (k := 7) rfl, b1_some, h2.rc, b1_some, h2.size, b1_some, if_pos ((i32_le (by omega) (by omega)).mpr (by omega))]
  | succ m ih =>
    intro k fuel ro μ w lo h1 h2 h3 h4 h5 hk hf
    cases fuel with
    | zero => omega
    | succ fuel =>
      obtain ⟨rA, h4a, h4b, h4c⟩ := h4
      obtain ⟨fk, h5k⟩ := h5 k (by omega)
      obtain ⟨ro1, μ1, s1, e1, a1⟩ := Al_add_eq w lo h3 (by omega) h5k.1 (by decide) (fun j hj => by
        obtain ⟨fj, h5j⟩ := h5 j (by omega)
        exact ⟨1, fj, h5j.1, by decide⟩)
      have a1' := a1.fn (e' := cq) (fun j hj => by
        by_cases hjk : j = k
        · rw [if_pos hjk, hjk]
        · rw [if_neg hjk])
      obtain ⟨ro', μ', q1, q2, q3⟩ := ih (k + 1) fuel ro1 μ1 e1.wf (e1.lo w lo) (h1.ext e1 (by omega)) (h2.ext e1 (by omega) (by omega)) a1' ⟨rA, h4a.ext e1 (by omega), h4b, h4c⟩ (fun j hj => by
        obtain ⟨fj, h5j⟩ := h5 j hj
        exact ⟨fj, h5j.ext e1 (by omega)⟩) (by omega) (by omega)
      refine ⟨ro', μ', ?_, e1.tr q2, q3⟩
      show b1 (gR μ (some c) 11 7) (fun x46 => b1 (rc μ x46 0) (fun _ => b1 (S_Al_size x46 μ) (fun x49 => if x49 ≤ i32 k then _ else b1 (gR μ (some A) 9 0) (fun x56 => b1 (gR μ (some c) 11 7) (fun x60 => b1 (rc μ x60 0) (fun _ => b1 (S_Al_get x60 (i32 k) μ) (fun x65 => b1 (cK μ x65 1) (fun _ => b1 (rc μ x56 0) (fun _ => b2 (S_Al_add x56 x65 μ) (fun x71 m71 => B_P_watch_43 fuel (some c) v1 (some A) (i32 k + 1) m71)))))))))) = _
      rw [gR_at h1.1 (k := 7) rfl, b1_some, h2.rc, b1_some, h2.size, b1_some, if_neg (fun q => by have := (i32_le (by omega) (by omega)).mp q; omega), gR_at h4a.1 (k := 0) rfl, b1_some, b1_some, h2.rc, b1_some, h2.get (by omega), b1_some, cK_at h5k.1, b1_some, h3.rc, b1_some, s1, b2_some, i32_succ, q1]
set_option maxHeartbeats 4000000 in
theorem call_watch {b c v : Nat} {ρ : RS} {μ : Mem} (hI : Invt b c v ρ μ) (hov : ov b ρ μ = μ) (x y : Int32) : CallU (S_P_watch (some c) x y) (R_M_watch x y) [(0, 1)] b c v ρ μ := by
  have hI0 := hI
  obtain ⟨ro, N, pl, lPl, aX, aY, nc, rt, aT, nt, lC, aW, hH, eE, rR, an, h1, h2, h3, h4, h5, h6, h7, h8, h9, h10, h11, h12, h13, h14, h15, h16⟩ := hI
  have hx4 : (0 ≤ x ∧ x ≤ 3) ↔ (¬ x < 0 ∧ ¬ 4 ≤ x) := by
    rw [i32_nlt, i32_nle, Int32.le_iff_toInt_le, Int32.le_iff_toInt_le, Int32.lt_iff_toInt_lt]
    have e0 : (0 : Int32).toInt = 0 := rfl
    have e3 : (3 : Int32).toInt = 3 := rfl
    have e4 : (4 : Int32).toInt = 4 := rfl
    omega
  have hbad : ¬ ((0 ≤ x ∧ x ≤ 3) ∧ 0 ≤ y ∧ y ≤ 9999) → CallU (S_P_watch (some c) x y) (R_M_watch x y) [(0, 1)] b c v ρ μ := by
    intro hb
    refine .inr ⟨0, m_up μ, 1, rpI ρ 0 1, ?_, by decide, ?_, rfl, by decide, hI0.code 1⟩
    · unfold S_P_watch B_P_watch_16
      by_cases q1 : x < 0
      · rw [if_pos q1]
      · by_cases q2 : 4 ≤ x
        · rw [if_neg q1, if_pos q2]
        · rw [if_neg q1, if_neg q2, S_isDay, b1_some, if_pos (bI_neg (fun q => hb ⟨hx4.mpr ⟨q1, q2⟩, q⟩))]
    · unfold R_M_watch
      rw [R_in, b1_some]
      by_cases hx : 0 ≤ x ∧ x ≤ 3
      · rw [if_neg (by rw [bI_pos hx]; decide), R_isDay, b1_some, if_pos (bI_neg (fun q => hb ⟨hx, q⟩))]
        rfl
      · rw [if_pos (bI_neg hx)]
        rfl
  by_cases hx : 0 ≤ x ∧ x ≤ 3
  case neg => exact hbad (fun q => hx q.1)
  by_cases hy : 0 ≤ y ∧ y ≤ 9999
  case neg => exact hbad (fun q => hy q.2)
  obtain ⟨q1, q2⟩ := hx4.mp hx
  obtain ⟨w, rfl, hw⟩ := i32_pos q1
  have hw4 : w < 4 := by
    rcases Nat.lt_or_ge w 4 with q | q
    · exact q
    · exact absurd ((i32_le (a := 4) (by decide) hw).mpr q) q2
  obtain ⟨n, cq, d1, d2, d3, d4⟩ := h7
  have d4' : ∀ j, j < n → IQ ro μ ρ N j (cq j) := fun j hj => by have := d4 j hj; rw [show 5 * 0 + j = j by omega] at this; exact this
  obtain ⟨μ1, s1, fr, cA, cL⟩ := Wa_init_eq h15 rt y
  have e1 : Ext (fun q => q = 10 ∨ q = 50 + 2 * w ∨ q = 50 + 2 * w + 1) ro μ (roN ro (mN μ) (fun a => if a = mN μ then 40 + w else 50 + 2 * w)) μ1 := fr.ext h15 ro _
  have e0 : Ext (fun q => False) ro μ (roN ro (mN μ) (fun a => if a = mN μ then 40 + w else 50 + 2 * w)) μ1 := fr.ext h15 ro _
  have r0 : roN ro (mN μ) (fun a => if a = mN μ then 40 + w else 50 + 2 * w) (mN μ) = 40 + w := by rw [roN_new (Nat.le_refl _)]; exact if_pos rfl
  have r1 : roN ro (mN μ) (fun a => if a = mN μ then 40 + w else 50 + 2 * w) (mN μ + 1) = 50 + 2 * w := by rw [roN_new (by omega)]; exact if_neg (by omega)
  have p1 := Is.old h1 h15 0 (.inr (9, [.null, .null, .int 0, .int 0]))
  generalize roN ro (mN μ) (fun a => if a = mN μ then 40 + w else 50 + 2 * w) = ro1 at *
  have w1 := e1.wf
  have lo1 := e1.lo h15 h16
  rw [← fr.mdD] at cL
  have iA : Is ro1 μ1 (mN μ) (40 + w) _ := ⟨cA, r0⟩
  have aL : AR ro1 μ1 (mN μ + 1) (50 + 2 * w) 0 cq := AR.of ⟨cL, r1⟩ cq
  have h1a := h1.ext e0 (fun q => q)
  have d3a := d3.ext e0 (fun q => q) (fun q => q)
  obtain ⟨ro2, μ2, s2, k2', a2⟩ := P_wt (v1 := i32 w) d2 (show 40 ≤ 50 + 2 * w by omega) n 0 6 ro1 μ1 w1 lo1 h1a d3a aL ⟨40 + w, iA, by omega, by omega⟩ (fun j hj => by
    obtain ⟨len, ⟨wo, z1, z2⟩, z3⟩ := (d4' j hj).ext e0 (fun q => q)
    exact ⟨_, z1⟩) (by omega) (by omega)
  have k2 : Ext (fun q => q = 10 ∨ q = 50 + 2 * w ∨ q = 50 + 2 * w + 1) ro1 μ1 ro2 μ2 := k2'.mono (fun r hr => by omega)
  have w2 := k2.wf
  have lo2 := k2.lo w1 lo1
  have h1b := h1a.ext k2' (by omega)
  have iAb := iA.ext k2' (by omega)
  obtain ⟨fw, u1, u2⟩ := h8
  have u1b := (u1.ext e0 (fun q => q)).ext k2' (by omega)
  have s3 : sR μ2 (some aW) 5 [9] (i32 w) (some (mN μ)) = some (m_set μ2 aW (.inl (5, 4, .inr (.inr (.inr (.inr (va_up fw w (some (mN μ))))))))) := sR_at u1b.1 (u1b.low lo2) hw4 (by decide) (okS_at iAb.1 (by decide))
  have k3 : Ext (fun q => q = 10 ∨ q = 50 + 2 * w ∨ q = 50 + 2 * w + 1) ro2 μ2 ro2 (m_set μ2 aW (.inl (5, 4, .inr (.inr (.inr (.inr (va_up fw w (some (mN μ))))))))) := Ext.set w2 u1b (.inl rfl) _
  have k3' : Ext (fun q => q = 10) ro2 μ2 ro2 (m_set μ2 aW (.inl (5, 4, .inr (.inr (.inr (.inr (va_up fw w (some (mN μ))))))))) := Ext.set (W := fun q => q = 10) w2 u1b rfl _
  have u1c := u1b.set ro2 (.inl (5, 4, .inr (.inr (.inr (.inr (va_up fw w (some (mN μ))))))))
  have e := (e1.tr k2).tr k3
  have hWR : WRel (w + 1) 0 (rset (rpI ρ 0 0) 23 (upd (ra ρ 23) (w + 1) (i32 n))) (rset (rpI ρ 0 0) 23 (upd (ra ρ 23) (w + 1) (i32 n))) := ⟨fun _ => rfl, fun _ _ => rfl, fun _ _ _ => ⟨fun _ _ => rfl, fun j hj => absurd hj (Nat.not_lt_zero j)⟩, fun _ _ => rfl, fun j _ hj => absurd hj (Nat.not_lt_zero j)⟩
  have h23z : ra (rset (rpI ρ 0 0) 23 (upd (ra ρ 23) (w + 1) (i32 n))) 23 0 = i32 n := (upd_ne (k := w + 1) (ra ρ 23) (i32 n) (show 0 ≠ w + 1 by omega)).trans d1
  obtain ⟨ρ', f, g, R1, R2, R3, R4⟩ := R_w52 (ρ0 := rset (rpI ρ 0 0) 23 (upd (ra ρ 23) (w + 1) (i32 n))) (s := w + 1) (day := y) (by omega) (by omega) d2 h23z n 0 fu _ hWR (by omega) (by show n < 4096; omega)
  have base : ∀ j, j ≠ 23 → ra (rset (rpI ρ 0 0) 23 (upd (ra ρ 23) (w + 1) (i32 n))) j = ra ρ j := fun j hj => va_up_ne _ _ hj
  have b23 : ra (rset (rpI ρ 0 0) 23 (upd (ra ρ 23) (w + 1) (i32 n))) 23 = upd (ra ρ 23) (w + 1) (i32 n) := rfl
  have bi : ∀ j, j ≠ 0 → ri (rset (rpI ρ 0 0) 23 (upd (ra ρ 23) (w + 1) (i32 n))) j = ri ρ j := fun j hj => va_up_ne _ _ hj
  have bi0 : ri (rset (rpI ρ 0 0) 23 (upd (ra ρ 23) (w + 1) (i32 n))) 0 = 0 := rfl
  have hRf : R_M_watch (i32 w) y ρ = RB_M_watch_52 fu y (i32 (w + 1)) (i32 0) (rset (rpI ρ 0 0) 23 (upd (ra ρ 23) (w + 1) (i32 n))) := by
    unfold R_M_watch
    rw [R_in, b1_some, if_neg (by rw [bI_pos hx]; decide), R_isDay, b1_some, if_neg (by rw [bI_pos hy]; decide)]
    unfold RB_M_watch_22
    rw [b0_eq, if_pos (show ri (rpI ρ 0 0) 0 ≤ 0 from by show (0 : Int32) ≤ 0; decide), b0_eq, i32_succ, show rgI (rpI ρ 0 0) 23 5 0 = some (ra ρ 23 0) from rgI_at (ρ := rpI ρ 0 0) (j := 0) (by decide) (by decide), b1_some, d1, rsI_at (by omega) (by decide), b1_some]
    rfl
  rw [R1] at hRf
  generalize rset (rpI ρ 0 0) 23 (upd (ra ρ 23) (w + 1) (i32 n)) = ρ0 at *
  obtain ⟨z0, z1, z2, z3, z4⟩ := R2
  have ft : ∀ j, ¬ (30 ≤ j ∧ j ≤ 35) → ra (rset (rset (rset (rset (rset (rset ρ' 30 (upd (ra ρ0 30) (w + 1) (ra ρ0 30 0))) 31 f) 32 g) 33 (upd (ra ρ0 33) (w + 1) y)) 34 (upd (ra ρ0 34) (w + 1) 1)) 35 (upd (ra ρ0 35) (w + 1) 0)) j = ra ρ' j := by
    intro j hj
    show va_up (va_up (va_up (va_up (va_up (va_up (ra ρ') 30 _) 31 _) 32 _) 33 _) 34 _) 35 _ j = _
    rw [va_up_ne _ _ (by omega), va_up_ne _ _ (by omega), va_up_ne _ _ (by omega), va_up_ne _ _ (by omega), va_up_ne _ _ (by omega), va_up_ne _ _ (by omega)]
  have f30 : ra (rset (rset (rset (rset (rset (rset ρ' 30 (upd (ra ρ0 30) (w + 1) (ra ρ0 30 0))) 31 f) 32 g) 33 (upd (ra ρ0 33) (w + 1) y)) 34 (upd (ra ρ0 34) (w + 1) 1)) 35 (upd (ra ρ0 35) (w + 1) 0)) 30 = upd (ra ρ0 30) (w + 1) (ra ρ0 30 0) := rfl
  have f31 : ra (rset (rset (rset (rset (rset (rset ρ' 30 (upd (ra ρ0 30) (w + 1) (ra ρ0 30 0))) 31 f) 32 g) 33 (upd (ra ρ0 33) (w + 1) y)) 34 (upd (ra ρ0 34) (w + 1) 1)) 35 (upd (ra ρ0 35) (w + 1) 0)) 31 = f := rfl
  have f32 : ra (rset (rset (rset (rset (rset (rset ρ' 30 (upd (ra ρ0 30) (w + 1) (ra ρ0 30 0))) 31 f) 32 g) 33 (upd (ra ρ0 33) (w + 1) y)) 34 (upd (ra ρ0 34) (w + 1) 1)) 35 (upd (ra ρ0 35) (w + 1) 0)) 32 = g := rfl
  have f33 : ra (rset (rset (rset (rset (rset (rset ρ' 30 (upd (ra ρ0 30) (w + 1) (ra ρ0 30 0))) 31 f) 32 g) 33 (upd (ra ρ0 33) (w + 1) y)) 34 (upd (ra ρ0 34) (w + 1) 1)) 35 (upd (ra ρ0 35) (w + 1) 0)) 33 = upd (ra ρ0 33) (w + 1) y := rfl
  have f34 : ra (rset (rset (rset (rset (rset (rset ρ' 30 (upd (ra ρ0 30) (w + 1) (ra ρ0 30 0))) 31 f) 32 g) 33 (upd (ra ρ0 33) (w + 1) y)) 34 (upd (ra ρ0 34) (w + 1) 1)) 35 (upd (ra ρ0 35) (w + 1) 0)) 34 = upd (ra ρ0 34) (w + 1) 1 := rfl
  have f35 : ra (rset (rset (rset (rset (rset (rset ρ' 30 (upd (ra ρ0 30) (w + 1) (ra ρ0 30 0))) 31 f) 32 g) 33 (upd (ra ρ0 33) (w + 1) y)) 34 (upd (ra ρ0 34) (w + 1) 1)) 35 (upd (ra ρ0 35) (w + 1) 0)) 35 = upd (ra ρ0 35) (w + 1) 0 := rfl
  have fi : ∀ j, ri (rset (rset (rset (rset (rset (rset ρ' 30 (upd (ra ρ0 30) (w + 1) (ra ρ0 30 0))) 31 f) 32 g) 33 (upd (ra ρ0 33) (w + 1) y)) 34 (upd (ra ρ0 34) (w + 1) 1)) 35 (upd (ra ρ0 35) (w + 1) 0)) j = ri ρ0 j := z0
  generalize rset (rset (rset (rset (rset (rset ρ' 30 (upd (ra ρ0 30) (w + 1) (ra ρ0 30 0))) 31 f) 32 g) 33 (upd (ra ρ0 33) (w + 1) y)) 34 (upd (ra ρ0 34) (w + 1) 1)) 35 (upd (ra ρ0 35) (w + 1) 0) = ρ9 at *
  have s : ∀ j, j < 23 → ra ρ9 j = ra ρ j := fun j hj => ((ft j (by omega)).trans (z1 j (by omega))).trans (base j (by omega))
  have s37 : ra ρ9 37 = ra ρ 37 := ((ft 37 (by omega)).trans (z1 37 (by omega))).trans (base 37 (by omega))
  have e23 : ra ρ9 23 = upd (ra ρ 23) (w + 1) (i32 n) := ((ft 23 (by omega)).trans (z1 23 (by omega))).trans b23
  have far : ∀ q, q < 5 * (w + 1) ∨ 5 * (w + 1) + 5 ≤ q → ra ρ9 24 q = ra ρ 24 q ∧ ra ρ9 25 q = ra ρ 25 q ∧ ra ρ9 26 q = ra ρ 26 q ∧ ra ρ9 27 q = ra ρ 27 q ∧ ra ρ9 28 q = ra ρ 28 q ∧ ∀ j, j < 10 → ra ρ9 29 (10 * q + j) = ra ρ 29 (10 * q + j) := by
    intro q hq
    rw [ft 24 (by omega), ft 25 (by omega), ft 26 (by omega), ft 27 (by omega), ft 28 (by omega), ft 29 (by omega), (z2 24 (by omega) (by omega)).1 q hq, (z2 25 (by omega) (by omega)).1 q hq, (z2 26 (by omega) (by omega)).1 q hq, (z2 27 (by omega) (by omega)).1 q hq, (z2 28 (by omega) (by omega)).1 q hq, base 24 (by omega), base 25 (by omega), base 26 (by omega), base 27 (by omega), base 28 (by omega)]
    exact ⟨rfl, rfl, rfl, rfl, rfl, fun j hj => (z3 _ (by omega)).trans (congrFun (base 29 (by omega)) _)⟩
  have near : ∀ j, j < n → ra ρ9 24 (5 * (w + 1) + j) = ra ρ 24 j ∧ ra ρ9 25 (5 * (w + 1) + j) = ra ρ 25 j ∧ ra ρ9 26 (5 * (w + 1) + j) = ra ρ 26 j ∧ ra ρ9 27 (5 * (w + 1) + j) = ra ρ 27 j ∧ ra ρ9 28 (5 * (w + 1) + j) = ra ρ 28 j ∧ ∀ i, i < 10 → ra ρ9 29 (10 * (5 * (w + 1) + j) + i) = ra ρ 29 (10 * j + i) := by
    intro j hj
    rw [ft 24 (by omega), ft 25 (by omega), ft 26 (by omega), ft 27 (by omega), ft 28 (by omega), ft 29 (by omega), (z2 24 (by omega) (by omega)).2 j hj, (z2 25 (by omega) (by omega)).2 j hj, (z2 26 (by omega) (by omega)).2 j hj, (z2 27 (by omega) (by omega)).2 j hj, (z2 28 (by omega) (by omega)).2 j hj, base 24 (by omega), base 25 (by omega), base 26 (by omega), base 27 (by omega), base 28 (by omega)]
    exact ⟨rfl, rfl, rfl, rfl, rfl, fun i hi => (z4 j i hj hi).trans (congrFun (base 29 (by omega)) _)⟩
  have rt0 : ∀ s', s' ≠ w + 1 → ra ρ9 30 s' = ra ρ 30 s' := fun s' hs => by rw [f30, upd_ne _ _ hs, base 30 (by omega)]
  have rtk : ∀ q, q < 8 * (w + 1) ∨ 8 * (w + 1) + 8 ≤ q → ra ρ9 31 q = ra ρ 31 q ∧ ra ρ9 32 q = ra ρ 32 q := fun q hq => by
    rw [f31, f32, (R4 q hq).1, (R4 q hq).2, base 31 (by omega), base 32 (by omega)]
    exact ⟨rfl, rfl⟩
  refine .inl ⟨_, ρ9, ?_, ov_keep hov h14 e (by omega), hRf, (fi 0).trans bi0, ⟨ro2, N, pl, lPl, aX, aY, nc, rt, aT, nt, lC, aW, hH, eE, rR, an, h1.ext e (by omega), (h2.ext e (fun q hq => by omega)).same ((fi 1).trans (bi 1 (by omega))) (s _ (by decide)) (s _ (by decide)) (s _ (by decide)) (s _ (by decide)) (s _ (by decide)) (s _ (by decide)) (s _ (by decide)) (s _ (by decide)) (s _ (by decide)) (s _ (by decide)) (s _ (by decide)) (s _ (by decide)) (s _ (by decide)) (s _ (by decide)) (s _ (by decide)) (s _ (by decide)), h3.same (fun i _ => congrFun (s 4 (by decide)) i) (fun i _ => congrFun (s 9 (by decide)) i) (s _ (by decide)) (s _ (by decide)) (s _ (by decide)) (s _ (by decide)), (h4.ext e (by omega) (by omega)).same ((fi 18).trans (bi 18 (by omega))) (s _ (by decide)) (s _ (by decide)), (h5.ext e (by omega)).rho (rt0 0 (by omega)) (fun k hk => rtk _ (by omega)), (h6.ext e (by omega)).same ((fi 21).trans (bi 21 (by omega))) (s _ (by decide)), ⟨n, cq, ?_, d2, d3.ext e (by omega) (by omega), fun j hj => ?_⟩, ⟨_, u1c, fun w' hw' => ?_⟩, (h9.ext e (by omega) (by omega) (by omega)).same ((fi 36).trans (bi 36 (by omega))) s37, h10.ext e (by omega) (fun i _ => by omega), h11.ext e (by omega), h12.ext e (by omega), h13.ext e (by omega), h14.ext e, e.wf, e.lo h15 h16⟩⟩
  · unfold S_P_watch
    rw [if_neg q1, if_neg q2, S_isDay, b1_some, if_neg (by rw [bI_pos hy]; decide), nO_eq, b2_some, gR_at p1.1 (k := 4) rfl, b1_some, rc_at (push_at _ _), b1_some, s1, b2_some, show (0 : Int32) = i32 0 from rfl, s2, gR_at h1b.1 (k := 8) rfl, b1_some, s3, b1_some]
  · rw [e23, upd_ne _ _ (by omega)]
    exact d1
  · rw [show 5 * 0 + j = j by omega]
    obtain ⟨f1, f2, f3, f4, f5, f6⟩ := far j (by omega)
    exact ((d4' j hj).ext e (by omega)).rho (Nat.le_refl _) f1 f2 f3 f4 f5 f6
  · by_cases hww : w' = w
    · subst hww
      refine .inr ⟨by rw [f34, upd_at], mN μ, mN μ + 1, rt, va_up_self _ _ _, ?_, ⟨n, cq, by rw [e23, upd_at], d2, a2.ext k3' (by omega) (by omega), fun j hj => ?_⟩, (h5.ext e (by omega)).shift ?_ (fun k hk => ?_)⟩
      · rw [f33, f35, upd_at, upd_at]
        exact iAb.ext k3' (by omega)
      · obtain ⟨f1, f2, f3, f4, f5, f6⟩ := near j hj
        exact ((d4' j hj).ext e (by omega)).rho (Nat.le_refl _) f1 f2 f3 f4 f5 f6
      · rw [f30, upd_at, base 30 (by omega)]
      · rw [f31, f32, (R3 k hk).1, (R3 k hk).2, base 31 (by omega), base 32 (by omega), show 8 * 0 + k = k by omega]
        exact ⟨rfl, rfl⟩
    · show IW1 ro2 _ ρ9 N w' (va_up fw w (some (mN μ)) w')
      rw [va_up_ne _ _ hww]
      refine ((u2 w' hw').ext e (by omega) (by omega) (by omega) (by omega)).rho (Nat.le_refl _) ?_ ?_ ?_ ?_ (fun j hj => far _ (by omega)) (rt0 _ (by omega)) (fun k hk => rtk _ (by omega))
      · rw [f34, upd_ne _ _ (by omega), base 34 (by omega)]
      · rw [f33, upd_ne _ _ (by omega), base 33 (by omega)]
      · rw [f35, upd_ne _ _ (by omega), base 35 (by omega)]
      · rw [e23, upd_ne _ _ (by omega)]
