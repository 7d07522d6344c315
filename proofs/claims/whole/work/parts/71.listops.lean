/-! adding to a list, emptying it -/
theorem okS_at {μ : Mem} {x ci : Nat} {fs : List Value} {cs : List Nat} (h : mF μ x = some (.inr (ci, fs))) (hc : ci ∈ cs) : okS μ cs (some x) = true := by
  unfold okS
  simp only [h]
  simpa using hc
theorem sR_at {μ : Mem} {a t n j : Nat} {f : Nat → Option Nat} {cs : List Nat} {x : Option Nat} (h : mF μ a = some (.inl (t, n, .inr (.inr (.inr (.inr f)))))) (hW : mW μ ≤ a) (hj : j < n) (hn : n < 2 ^ 31) (hx : okS μ cs x = true) : sR μ (some a) t cs (i32 j) x = some (m_set μ a (.inl (t, n, .inr (.inr (.inr (.inr (va_up f j x))))))) := by
  unfold sR
  rw [aC_at h]
  dsimp only
  rw [if_neg (not_oob hj hn), if_pos ⟨hW, hx⟩, i32_nat (by omega)]
theorem b2_some {α β : Type} (x : α) (m : Mem) (F : α → Mem → Option β) : b2 (some (x, m)) F = F x m := rfl
theorem aLen_D {μ : Mem} {a : Nat} (hD : a = mD μ) : aLen μ (some a) = some 0 := by
  unfold aLen
  simp only [hD, if_true]
theorem pV_is {ro : Nat → Nat} {μ : Mem} {a r ci k : Nat} {fs : List Value} (v : TV) (h : Is ro μ a r (.inr (ci, fs))) (lo : mW μ ≤ a) (hk : k < fs.length) : pV μ (some a) ci k v = some (m_set μ a (.inr (ci, fs.set k (tv v)))) := pV_at v h.1 lo hk
theorem Is.low {ro : Nat → Nat} {μ : Mem} {a r : Nat} {e : ME} (h : Is ro μ a r e) (lo : LO μ) : mW μ ≤ a := lo a e h.1
/-- the store and the new size -/
theorem Al_put {ro : Nat → Nat} {μ : Mem} {a r ad n cap x ci : Nat} {mc : Int32} {f : Nat → Option Nat} {fs : List Value} {e : Nat → Nat} {W : Nat → Prop} (w : WF μ) (h1 : Is ro μ a r (.inr (0, [.ref ad, .int (i32 n), .int mc]))) (h2 : Is ro μ ad (r + 1) (.inl (4, cap, .inr (.inr (.inr (.inr f)))))) (l1 : mW μ ≤ a) (l2 : mW μ ≤ ad) (hn : n < cap) (hc : capQ cap) (hf : ∀ k, k < n → f k = some (e k)) (hx : mF μ x = some (.inr (ci, fs))) (hci : ci ∈ [1, 2, 5, 6, 7]) (hW : W r) (hW1 : W (r + 1)) : ∃ μ', B_Al_add2_11 (some a) (some x) (some ad) (i32 n) μ = some ((), μ') ∧ Ext W ro μ ro μ' ∧ AR ro μ' a r (n + 1) (fun k => if k = n then x else e k) := by
  have hD : ad ≠ mD μ := by have := w.1.1; omega
  refine ⟨m_set (m_set μ ad (.inl (4, cap, .inr (.inr (.inr (.inr (va_up f n (some x)))))))) a (.inr (0, [.ref ad, .int (i32 (n + 1)), .int mc])), ?_, ?_, ad, mc, ?_, .inr ⟨hD, cap, va_up f n (some x), ?_, hn, hc, fun k hk => ?_⟩⟩
  rotate_left
  · exact (Ext.set w h2 hW1 _).tr (Ext.set (Ext.set (W := W) w h2 hW1 _).wf (h1.keep h2 (by omega) _) hW _)
  · exact (h1.keep h2 (by omega) _).set ro _
  · exact (h2.set ro _).keep (h1.keep h2 (by omega) _) (by omega) _
  · by_cases hkn : k = n
    · subst hkn; rw [va_up_self]; simp
    · rw [va_up_ne _ _ hkn]; simp only [hkn, if_false]; exact hf k (by omega)
  · unfold B_Al_add2_11
    rw [sR_at h2.1 l2 hn (by unfold capQ at hc; omega) (okS_at hx hci), b1_some, pV_at _ (h1.keep h2 (by omega) _).1 l1 (show 1 < 3 by decide), b1_some]
    rw [i32_succ]
    rfl
theorem acR_at {μ : Mem} {a0 a1 n0 n1 n t : Nat} {cs : List Nat} {f g : Nat → Option Nat} (h0 : mF μ a0 = some (.inl (t, n0, .inr (.inr (.inr (.inr f)))))) (h1 : mF μ a1 = some (.inl (t, n1, .inr (.inr (.inr (.inr g)))))) (hn0 : n ≤ n0) (hn1 : n ≤ n1) (hn : n < 2 ^ 31) (l : mW μ ≤ a1) (hok : ∀ k, k < n → okS μ cs (f k) = true) : acR μ (some a0) 0 (some a1) 0 (i32 n) t cs = some (m_set μ a1 (.inl (t, n1, .inr (.inr (.inr (.inr (va_cpy f g 0 0 n))))))) := by
  unfold acR
  rw [aC_at h0, aC_at h1]
  dsimp only
  rw [i32_nat hn, if_neg]
  · rfl
  · have h00 : ¬ ((0 : Int32) < 0) := by decide
    have hz : (0 : Int32).toNatClampNeg = 0 := rfl
    rw [hz]
    have hnn := i32_nn hn
    intro q
    rcases q with q | q | q | q | q | q | q
    · exact h00 q
    · exact h00 q
    · exact hnn q
    · omega
    · omega
    · omega
    · apply q
      rw [List.all_eq_true]
      intro k hk
      rw [List.mem_range] at hk
      rw [Nat.zero_add]
      exact hok k hk
theorem nR_at {μ : Mem} {t n B : Nat} (h : n ≤ B) (hB : n < 2 ^ 31) : nR_ μ t (i32 n) B = some (some (mN μ), m_push μ (.inl (t, n, .inr (.inr (.inr (.inr (fun _ => none))))))) := by
  unfold nR_
  rw [i32_nat hB, if_neg]
  intro q
  rcases q with q | q
  · exact i32_nn hB q
  · omega
theorem nI_at {μ : Mem} {t n B : Nat} (h : n ≤ B) (hB : n < 2 ^ 31) : nI_ μ t (i32 n) B = some (some (mN μ), m_push μ (.inl (t, n, .inl (fun _ => 0)))) := by
  unfold nI_
  rw [i32_nat hB, if_neg]
  intro q
  rcases q with q | q
  · exact i32_nn hB q
  · omega
theorem cap_new {c : Nat} (h : capQ c) : i32 c + (if (i32 c + 1 - i32 c) < (i32 c >>> ((1 : Int32) &&& 31)) then (i32 c >>> ((1 : Int32) &&& 31)) else (i32 c + 1 - i32 c)) = i32 (c + c / 2) := by
  rcases h with h | h | h | h <;> subst h <;> decide
theorem Al_add_eq {ro : Nat → Nat} {μ : Mem} {a r n x ci : Nat} {fs : List Value} {e : Nat → Nat} (w : WF μ) (lo : LO μ) (h : AR ro μ a r n e) (hn : n < 30) (hx : mF μ x = some (.inr (ci, fs))) (hci : ci ∈ [1, 2, 5, 6, 7]) (hcls : ∀ k, k < n → ∃ ci fs, mF μ (e k) = some (.inr (ci, fs)) ∧ ci ∈ [1, 2, 5, 6, 7]) : ∃ ro' μ', S_Al_add (some a) (some x) μ = some (1, μ') ∧ Ext (fun q => q = r ∨ q = r + 1) ro μ ro' μ' ∧ AR ro' μ' a r (n + 1) (fun k => if k = n then x else e k) := by
  obtain ⟨ad, mc, h1, h2⟩ := h
  have l1 := h1.low lo
  have g1 : gI μ (some a) 0 2 = some mc := gI_at h1.1 rfl
  have p1 : pV μ (some a) 0 2 (vI (mc + 1)) = some (m_set μ a (.inr (0, [.ref ad, .int (i32 n), .int (mc + 1)]))) := pV_at _ h1.1 l1 (show 2 < 3 by decide)
  have e1 : Ext (fun q => q = r ∨ q = r + 1) ro μ ro (m_set μ a (.inr (0, [.ref ad, .int (i32 n), .int (mc + 1)]))) := Ext.set w h1 (.inl rfl) _
  have i1 : Is ro (m_set μ a (.inr (0, [.ref ad, .int (i32 n), .int (mc + 1)]))) a r (.inr (0, [.ref ad, .int (i32 n), .int (mc + 1)])) := h1.set ro _
  have xa : x ≠ a := by
    intro q
    subst q
    rw [h1.1] at hx
    cases hx
    simp at hci
  have x1 : mF (m_set μ a (.inr (0, [.ref ad, .int (i32 n), .int (mc + 1)]))) x = some (.inr (ci, fs)) := (set_ne _ _ xa).trans hx
  have c1 : ∀ k, k < n → ∃ ci fs, mF (m_set μ a (.inr (0, [.ref ad, .int (i32 n), .int (mc + 1)]))) (e k) = some (.inr (ci, fs)) ∧ ci ∈ [1, 2, 5, 6, 7] := by
    intro k hk
    obtain ⟨ck, fk, hk1, hk2⟩ := hcls k hk
    have : e k ≠ a := by
      intro q
      rw [q, h1.1] at hk1
      cases hk1
      simp at hk2
    exact ⟨ck, fk, (set_ne _ _ this).trans hk1, hk2⟩
  unfold S_Al_add
  rw [g1, b1_some, p1, b1_some]
  have w1 := e1.wf
  have lo1 := e1.lo w lo
  have h2' : (ad = mD μ ∧ n = 0) ∨ (ad ≠ mD μ ∧ ∃ cap f, Is ro (m_set μ a (.inr (0, [.ref ad, .int (i32 n), .int (mc + 1)]))) ad (r + 1) (.inl (4, cap, .inr (.inr (.inr (.inr f))))) ∧ n ≤ cap ∧ capQ cap ∧ ∀ k, k < n → f k = some (e k)) := by
    rcases h2 with h2 | ⟨h2, cap, f, h3, h4⟩
    · exact .inl h2
    · exact .inr ⟨h2, cap, f, h3.keep h1 (by omega) _, h4⟩
  have hd1 : mD (m_set μ a (.inr (0, [.ref ad, .int (i32 n), .int (mc + 1)]))) = mD μ := rfl
  generalize m_set μ a (.inr (0, [.ref ad, .int (i32 n), .int (mc + 1)])) = μ1 at *
  rw [gR_at i1.1 rfl, b1_some, gI_at i1.1 rfl, b1_some, rc_at i1.1, b1_some]
  unfold S_Al_add2
  have okg : gd (¬ okZ 1 = true) (some ((1 : Int32), μ1)) = some (1, μ1) := rfl
  rcases h2' with ⟨hD, hn0⟩ | ⟨hD, cap, f, i2, hcap, hq, hf⟩
  · subst hn0
    rw [aLen_D (hD.trans hd1.symm), b1_some, if_pos (show i32 0 = 0 from rfl), rc_at i1.1, b1_some]
    unfold S_Al_grow
    rw [gI_at i1.1 rfl, b1_some, rc_at i1.1, b1_some]
    unfold S_Al_grow2
    rw [gR_at i1.1 rfl, b1_some, aLen_D (hD.trans hd1.symm), b1_some, if_neg (by decide), b1_some, if_pos (by rw [hD, hd1]), Ma_max_eq, b1_some]
    rw [show (if (10 : Int32) < i32 0 + 1 then i32 0 + 1 else 10) = i32 10 from by decide, nR_at (by decide) (by decide), b2_some]
    have e2 : Ext (fun q => q = r ∨ q = r + 1) ro μ1 (va_up ro (mN μ1) (r + 1)) (m_push μ1 (.inl (4, 10, .inr (.inr (.inr (.inr (fun _ => none))))))) := Ext.push w1 _ _
    have i2 : Is (va_up ro (mN μ1) (r + 1)) (m_push μ1 (.inl (4, 10, .inr (.inr (.inr (.inr (fun _ => none))))))) a r _ := i1.old w1 _ _
    have j2 : Is (va_up ro (mN μ1) (r + 1)) (m_push μ1 (.inl (4, 10, .inr (.inr (.inr (.inr (fun _ => none))))))) (mN μ1) (r + 1) _ := Is.new ro μ1 (r + 1) _
    have x2 := (push_ne μ1 (.inl (4, 10, .inr (.inr (.inr (.inr (fun _ => none)))))) (Nat.ne_of_lt (w1.lt x1))).trans x1
    have w2 := e2.wf
    have lo2 := e2.lo w1 lo1
    generalize m_push μ1 (.inl (4, 10, .inr (.inr (.inr (.inr (fun _ => none)))))) = μ2 at *
    generalize va_up ro (mN μ1) (r + 1) = ro2 at *
    generalize mN μ1 = ad2 at *
    rw [pV_at _ i2.1 (i2.low lo2) (show 0 < 3 by decide), b1_some, b2_some, b2_some]
    have e3 : Ext (fun q => q = r ∨ q = r + 1) ro2 μ2 ro2 (m_set μ2 a (.inr (0, [.ref ad2, .int (i32 0), .int (mc + 1)]))) := Ext.set w2 i2 (.inl rfl) _
    have i3 : Is ro2 (m_set μ2 a (.inr (0, [.ref ad2, .int (i32 0), .int (mc + 1)]))) a r (.inr (0, [.ref ad2, .int (i32 0), .int (mc + 1)])) := i2.set ro2 _
    have j3 := j2.keep i2 (by omega) (.inr (0, [.ref ad2, .int (i32 0), .int (mc + 1)]))
    have x3 := (set_ne μ2 (.inr (0, [.ref ad2, .int (i32 0), .int (mc + 1)])) xa).trans x2
    obtain ⟨μ', q1, q2, q3⟩ := Al_put (W := fun q => q = r ∨ q = r + 1) e3.wf i3 j3 (i3.low (e3.lo w2 lo2)) (j3.low (e3.lo w2 lo2)) (show 0 < 10 by decide) (.inl rfl) (fun k hk => absurd hk (Nat.not_lt_zero k)) x3 hci (.inl rfl) (.inr rfl)
    refine ⟨ro2, μ', ?_, ((e1.tr e2).tr e3).tr q2, q3.fn (fun k _ => rfl)⟩
    rw [show ([Value.ref ad, Value.int (i32 0), Value.int (mc + 1)].set 0 (tv (vR (some ad2)))) = [.ref ad2, .int (i32 0), .int (mc + 1)] from rfl, q1]
    rfl
  · rw [aLen_at i2.1 (by rw [hd1]; exact hD) (by decide), b1_some]
    by_cases hnc : n = cap
    · subst hnc
      rw [if_pos rfl, rc_at i1.1, b1_some]
      unfold S_Al_grow
      rw [gI_at i1.1 rfl, b1_some, rc_at i1.1, b1_some]
      unfold S_Al_grow2
      have hpos : (0 : Int32) < i32 n := (i32_lt (a := 0) (by decide) (by unfold capQ at hq; omega)).mpr (by unfold capQ at hq; omega)
      rw [gR_at i1.1 rfl, b1_some, aLen_at i2.1 (by rw [hd1]; exact hD) (by decide), b1_some, if_pos hpos]
      unfold B_Al_grow2_20 S_Su_newLength
      rw [Ma_max_eq, b1_some, b0_eq, cap_new hq]
      have hb : n + n / 2 ≤ 33 ∧ 15 ≤ n + n / 2 ∧ capQ (n + n / 2) := by
        unfold capQ at hq ⊢
        omega
      rw [if_neg (show ¬ i32 (n + n / 2) ≤ (0 : Int32) from i32_nle.mpr ((i32_lt (a := 0) (by decide) (by omega)).mpr (by omega))), if_neg (show ¬ (2147483639 : Int32) < i32 (n + n / 2) from i32_nlt.mpr ((i32_le (b := 2147483639) (by omega) (by decide)).mpr (by omega))), b1_some, gR_at i1.1 rfl, b1_some]
      unfold S_As_copyOf2
      rw [aC_at i2.1, b1_some]
      unfold S_As_copyOf3
      rw [if_pos rfl, nR_at hb.1 (by omega), b2_some]
      have e2 : Ext (fun q => q = r ∨ q = r + 1) ro μ1 (va_up ro (mN μ1) (r + 1)) (m_push μ1 (.inl (4, n + n / 2, .inr (.inr (.inr (.inr (fun _ => none))))))) := Ext.push w1 _ _
      have i3 : Is (va_up ro (mN μ1) (r + 1)) (m_push μ1 (.inl (4, n + n / 2, .inr (.inr (.inr (.inr (fun _ => none))))))) a r _ := i1.old w1 _ _
      have i4 : Is (va_up ro (mN μ1) (r + 1)) (m_push μ1 (.inl (4, n + n / 2, .inr (.inr (.inr (.inr (fun _ => none))))))) ad (r + 1) _ := i2.old w1 _ _
      have j2 : Is (va_up ro (mN μ1) (r + 1)) (m_push μ1 (.inl (4, n + n / 2, .inr (.inr (.inr (.inr (fun _ => none))))))) (mN μ1) (r + 1) _ := Is.new ro μ1 (r + 1) _
      have x2 := (push_ne μ1 (.inl (4, n + n / 2, .inr (.inr (.inr (.inr (fun _ => none)))))) (Nat.ne_of_lt (w1.lt x1))).trans x1
      have c2 : ∀ k, k < n → okS (m_push μ1 (.inl (4, n + n / 2, .inr (.inr (.inr (.inr (fun _ => none))))))) [1, 2, 5, 6, 7] (f k) = true := by
        intro k hk
        obtain ⟨ck, fk, hk1, hk2⟩ := c1 k hk
        rw [hf k hk]
        exact okS_at ((push_ne μ1 _ (Nat.ne_of_lt (w1.lt hk1))).trans hk1) hk2
      have w2 := e2.wf
      have lo2 := e2.lo w1 lo1
      have hd2 : mD (m_push μ1 (.inl (4, n + n / 2, .inr (.inr (.inr (.inr (fun _ => none))))))) = mD μ := hd1
      have hne : a ≠ mN μ1 := Nat.ne_of_lt (i1.lt w1)
      generalize m_push μ1 (.inl (4, n + n / 2, .inr (.inr (.inr (.inr (fun _ => none)))))) = μ2 at *
      generalize va_up ro (mN μ1) (r + 1) = ro2 at *
      generalize mN μ1 = ad2 at *
      rw [aLen_at i4.1 (by rw [hd2]; exact hD) (by decide), b1_some, Ma_min_eq, b1_some, if_neg (i32_nlt.mpr ((i32_le (by omega) (by omega)).mpr (by omega))), acR_at i4.1 j2.1 (Nat.le_refl _) (by omega) (by omega) (j2.low lo2) c2, b1_some, b2_some, b2_some]
      have e3 : Ext (fun q => q = r ∨ q = r + 1) ro2 μ2 ro2 (m_set μ2 ad2 (.inl (4, n + n / 2, .inr (.inr (.inr (.inr (va_cpy f (fun _ => none) 0 0 n))))))) := Ext.set w2 j2 (.inr rfl) _
      have j3 : Is ro2 (m_set μ2 ad2 (.inl (4, n + n / 2, .inr (.inr (.inr (.inr (va_cpy f (fun _ => none) 0 0 n))))))) ad2 (r + 1) _ := j2.set ro2 _
      have i5 := i3.keep j2 (by omega) (.inl (4, n + n / 2, .inr (.inr (.inr (.inr (va_cpy f (fun _ => none) 0 0 n))))))
      have x3 : mF (m_set μ2 ad2 (.inl (4, n + n / 2, .inr (.inr (.inr (.inr (va_cpy f (fun _ => none) 0 0 n))))))) x = some (.inr (ci, fs)) := by
        refine (set_ne _ _ ?_).trans x2
        intro q
        rw [q, j2.1] at x2
        cases x2
      have w3 := e3.wf
      have lo3 := e3.lo w2 lo2
      generalize m_set μ2 ad2 (.inl (4, n + n / 2, .inr (.inr (.inr (.inr (va_cpy f (fun _ => none) 0 0 n)))))) = μ3 at *
      rw [pV_at _ i5.1 (i5.low lo3) (show 0 < 3 by decide), b1_some, b2_some, b2_some]
      have e4 : Ext (fun q => q = r ∨ q = r + 1) ro2 μ3 ro2 (m_set μ3 a (.inr (0, [.ref ad2, .int (i32 n), .int (mc + 1)]))) := Ext.set w3 i5 (.inl rfl) _
      have i6 : Is ro2 (m_set μ3 a (.inr (0, [.ref ad2, .int (i32 n), .int (mc + 1)]))) a r (.inr (0, [.ref ad2, .int (i32 n), .int (mc + 1)])) := i5.set ro2 _
      have j6 := j3.keep i5 (by omega) (.inr (0, [.ref ad2, .int (i32 n), .int (mc + 1)]))
      have x6 := (set_ne μ3 (.inr (0, [.ref ad2, .int (i32 n), .int (mc + 1)])) xa).trans x3
      obtain ⟨μ', q1, q2, q3⟩ := Al_put (W := fun q => q = r ∨ q = r + 1) (e := e) e4.wf i6 j6 (i6.low (e4.lo w3 lo3)) (j6.low (e4.lo w3 lo3)) (show n < n + n / 2 by omega) hb.2.2 (fun k hk => by unfold va_cpy; rw [if_pos (by omega)]; rw [← hf k hk]; congr 1; omega) x6 hci (.inl rfl) (.inr rfl)
      refine ⟨ro2, μ', ?_, (((e1.tr e2).tr e3).tr e4).tr q2, q3⟩
      rw [show ([Value.ref ad, Value.int (i32 n), Value.int (mc + 1)].set 0 (tv (vR (some ad2)))) = [.ref ad2, .int (i32 n), .int (mc + 1)] from rfl, q1]
      rfl
    · rw [if_neg (fun q => hnc ((i32_inj (by omega) (by unfold capQ at hq; omega)).mp q))]
      obtain ⟨μ', q1, q2, q3⟩ := Al_put (W := fun q => q = r ∨ q = r + 1) w1 i1 i2 (i1.low lo1) (i2.low lo1) (show n < cap by omega) hq hf x1 hci (.inl rfl) (.inr rfl)
      exact ⟨ro, μ', by rw [q1]; rfl, e1.tr q2, q3⟩
