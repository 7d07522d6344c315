/-! emptying a list, making lists and corners -/
theorem Al_clr {ro : Nat → Nat} {a r ad n cap : Nat} {mc : Int32} {W : Nat → Prop} (hW1 : W (r + 1)) (hcap : n ≤ cap) (hc : capQ cap) (m : Nat) : ∀ (k fuel : Nat) (μ : Mem) (f : Nat → Option Nat), WF μ → LO μ → Is ro μ a r (.inr (0, [.ref ad, .int 0, .int mc])) → Is ro μ ad (r + 1) (.inl (4, cap, .inr (.inr (.inr (.inr f))))) → k + m = n → m < fuel → ∃ μ', B_Al_clear_27 fuel (some ad) (i32 n) (i32 k) μ = some ((), μ') ∧ Ext W ro μ ro μ' ∧ ∃ g, Is ro μ' a r (.inr (0, [.ref ad, .int 0, .int mc])) ∧ Is ro μ' ad (r + 1) (.inl (4, cap, .inr (.inr (.inr (.inr g))))) := by
  have hb : cap ≤ 33 := by unfold capQ at hc; omega
  induction m with
  | zero =>
    intro k fuel μ f w lo h1 h2 hk hf
    cases fuel with
    | zero => omega
    | succ fuel =>
      refine ⟨μ, ?_, Ext.rf w, f, h1, h2⟩
      show (if i32 n ≤ i32 k then some ((), μ) else _) = _
      rw [if_pos ((i32_le (by omega) (by omega)).mpr (by omega))]
  | succ m ih =>
    intro k fuel μ f w lo h1 h2 hk hf
    cases fuel with
    | zero => omega
    | succ fuel =>
      have e1 : Ext W ro μ ro (m_set μ ad (.inl (4, cap, .inr (.inr (.inr (.inr (va_up f k none))))))) := Ext.set w h2 hW1 _
      obtain ⟨μ', q1, q2, g, q3, q4⟩ := ih (k + 1) fuel _ (va_up f k none) e1.wf (e1.lo w lo) (h1.keep h2 (by omega) _) (h2.set ro _) (by omega) (by omega)
      refine ⟨μ', ?_, e1.tr q2, g, q3, q4⟩
      show (if i32 n ≤ i32 k then some ((), μ) else b1 (sR μ (some ad) 4 [] (i32 k) none) (fun m35 => B_Al_clear_27 fuel (some ad) (i32 n) (i32 k + 1) m35)) = _
      rw [if_neg (fun q => by have := (i32_le (by omega) (by omega)).mp q; omega), sR_at h2.1 (h2.low lo) (by omega) (by omega) rfl, b1_some, i32_succ, q1]
theorem Al_clear_eq {ro : Nat → Nat} {μ : Mem} {a r n : Nat} {e : Nat → Nat} (w : WF μ) (lo : LO μ) (h : AR ro μ a r n e) (e' : Nat → Nat) : ∃ μ', S_Al_clear (some a) μ = some ((), μ') ∧ Ext (fun q => q = r ∨ q = r + 1) ro μ ro μ' ∧ AR ro μ' a r 0 e' := by
  obtain ⟨ad, mc, h1, h2⟩ := h
  have l1 := h1.low lo
  have p1 : pV μ (some a) 0 2 (vI (mc + 1)) = some (m_set μ a (.inr (0, [.ref ad, .int (i32 n), .int (mc + 1)]))) := pV_at _ h1.1 l1 (show 2 < 3 by decide)
  have e1 : Ext (fun q => q = r ∨ q = r + 1) ro μ ro (m_set μ a (.inr (0, [.ref ad, .int (i32 n), .int (mc + 1)]))) := Ext.set w h1 (.inl rfl) _
  have i1 : Is ro (m_set μ a (.inr (0, [.ref ad, .int (i32 n), .int (mc + 1)]))) a r (.inr (0, [.ref ad, .int (i32 n), .int (mc + 1)])) := h1.set ro _
  unfold S_Al_clear
  rw [gI_at h1.1 (k := 2) rfl, b1_some, p1, b1_some]
  have w1 := e1.wf
  have lo1 := e1.lo w lo
  have h2' : (ad = mD μ ∧ n = 0) ∨ (ad ≠ mD μ ∧ ∃ cap f, Is ro (m_set μ a (.inr (0, [.ref ad, .int (i32 n), .int (mc + 1)]))) ad (r + 1) (.inl (4, cap, .inr (.inr (.inr (.inr f))))) ∧ n ≤ cap ∧ capQ cap ∧ ∀ k, k < n → f k = some (e k)) := by
    rcases h2 with h2 | ⟨h2, cap, f, h3, h4⟩
    · exact .inl h2
    · exact .inr ⟨h2, cap, f, h3.keep h1 (by omega) _, h4⟩
  have hd1 : mD (m_set μ a (.inr (0, [.ref ad, .int (i32 n), .int (mc + 1)]))) = mD μ := rfl
  generalize m_set μ a (.inr (0, [.ref ad, .int (i32 n), .int (mc + 1)])) = μ1 at *
  rw [gR_at i1.1 rfl, b1_some, gI_at i1.1 (k := 1) rfl, b1_some]
  have p2 : pV μ1 (some a) 0 1 (vI 0) = some (m_set μ1 a (.inr (0, [.ref ad, .int 0, .int (mc + 1)]))) := pV_at _ i1.1 (i1.low lo1) (show 1 < 3 by decide)
  rw [p2, b1_some]
  have e2 : Ext (fun q => q = r ∨ q = r + 1) ro μ1 ro (m_set μ1 a (.inr (0, [.ref ad, .int 0, .int (mc + 1)]))) := Ext.set w1 i1 (.inl rfl) _
  have i2 : Is ro (m_set μ1 a (.inr (0, [.ref ad, .int 0, .int (mc + 1)]))) a r (.inr (0, [.ref ad, .int 0, .int (mc + 1)])) := i1.set ro _
  have hd2 : mD (m_set μ1 a (.inr (0, [.ref ad, .int 0, .int (mc + 1)]))) = mD μ := hd1
  rcases h2' with ⟨hD, hn0⟩ | ⟨hD, cap, f, j1, hcap, hq, hf⟩
  · subst hn0
    exact ⟨_, rfl, e1.tr e2, ad, mc + 1, i2, .inl ⟨by rw [hd2]; exact hD, rfl⟩⟩
  · obtain ⟨μ', q1, q2, g, q3, q4⟩ := Al_clr (W := fun q => q = r ∨ q = r + 1) (.inr rfl) hcap hq n 0 fu _ f e2.wf (e2.lo w1 lo1) i2 (j1.keep i1 (by omega) _) (by omega) (by unfold capQ at hq; show n < 4096; omega)
    refine ⟨μ', q1, (e1.tr e2).tr q2, ad, mc + 1, q3, .inr ⟨?_, cap, g, q4, Nat.zero_le _, hq, fun k hk => absurd hk (Nat.not_lt_zero k)⟩⟩
    rw [((e1.tr e2).tr q2).hd]
    exact hD
/-! making: what is written lies above n0 -/
def Fr (n0 : Nat) (μ μ' : Mem) : Prop := mE μ' = mE μ ∧ mW μ' = mW μ ∧ mN μ ≤ mN μ' ∧ WF μ' ∧ ∀ a, a < n0 → mF μ' a = mF μ a
theorem Fr.rf {n0 : Nat} {μ : Mem} (w : WF μ) : Fr n0 μ μ := ⟨rfl, rfl, Nat.le_refl _, w, fun _ _ => rfl⟩
theorem Fr.tr {n0 : Nat} {m1 m2 m3 : Mem} (h : Fr n0 m1 m2) (k : Fr n0 m2 m3) : Fr n0 m1 m3 := ⟨k.1.trans h.1, k.2.1.trans h.2.1, Nat.le_trans h.2.2.1 k.2.2.1, k.2.2.2.1, fun a ha => (k.2.2.2.2 a ha).trans (h.2.2.2.2 a ha)⟩
theorem Fr.wf {n0 : Nat} {m1 m2 : Mem} (h : Fr n0 m1 m2) : WF m2 := h.2.2.2.1
theorem Fr.push {n0 : Nat} {m1 m2 : Mem} (h : Fr n0 m1 m2) (hn : n0 ≤ mN m2) (e : ME) : Fr n0 m1 (m_push m2 e) := by
  have w := h.wf
  refine h.tr ⟨rfl, rfl, Nat.le_succ _, (Ext.push (W := fun _ => True) (ro := fun _ => 0) w 0 e).wf, fun a ha => push_ne _ _ (by omega)⟩
theorem Fr.set {n0 : Nat} {m1 m2 : Mem} (h : Fr n0 m1 m2) {a : Nat} {e0 : ME} (ha : n0 ≤ a) (hc : mF m2 a = some e0) (e : ME) : Fr n0 m1 (m_set m2 a e) := by
  have w := h.wf
  refine h.tr ⟨rfl, rfl, Nat.le_refl _, (Ext.set (W := fun _ => True) (ro := fun _ => 0) w ⟨hc, rfl⟩ trivial e).wf, fun q hq => set_ne _ _ (by omega)⟩
def roN (ro : Nat → Nat) (n0 : Nat) (g : Nat → Nat) : Nat → Nat := fun a => if a < n0 then ro a else g a
theorem Fr.ext {W : Nat → Prop} {μ μ' : Mem} (h : Fr (mN μ) μ μ') (w : WF μ) (ro g : Nat → Nat) : Ext W ro μ (roN ro (mN μ) g) μ' := by
  obtain ⟨h1, h2, h3, h4, h5⟩ := h
  refine ⟨h1, h2, h3, h4, fun a e ha => ?_, fun a e ha => ?_⟩
  · rcases Nat.lt_or_ge a (mN μ) with q | q
    · rw [h5 a q] at ha; exact .inr ⟨e, ha⟩
    · exact .inl q
  · have q := w.lt ha
    exact ⟨if_pos q, ⟨e, (h5 a q).trans ha⟩, fun _ => (h5 a q).trans ha⟩
theorem roN_new {ro : Nat → Nat} {n0 a : Nat} {g : Nat → Nat} (h : n0 ≤ a) : roN ro n0 g a = g a := if_neg (by omega)
theorem set_set (μ : Mem) (a : Nat) (e e' : ME) : m_set (m_set μ a e) a e' = m_set μ a e' := by
  unfold m_set
  simp only [Prod.mk.injEq, true_and]
  funext q
  unfold va_up
  split
  · rfl
  · rename_i hq
    show (if q = a then some e else mF μ q) = mF μ q
    rw [if_neg hq]
theorem Al_init_eq {μ : Mem} {a : Nat} (h : mF μ a = some (.inr (0, [.null, .int 0, .int 0]))) (l : mW μ ≤ a) : S_Al_init (some a) μ = some ((), m_set μ a (.inr (0, [.ref (mD μ), .int 0, .int 0]))) := by
  unfold S_Al_init
  rw [rc_at h, b1_some]
  unfold S_Ab_init
  rw [rc_at h, b1_some]
  unfold S_Ac_init
  have p0 : pV μ (some a) 0 2 (vI 0) = some (m_set μ a (.inr (0, [.null, .int 0, .int 0]))) := pV_at _ h l (show 2 < 3 by decide)
  have h1 : mF (m_set μ a (.inr (0, [.null, .int 0, .int 0]))) a = some (.inr (0, [.null, .int 0, .int 0])) := set_at _ _ _
  have p1 : pV (m_set μ a (.inr (0, [.null, .int 0, .int 0]))) (some a) 0 0 (vR (some (mD μ))) = some (m_set (m_set μ a (.inr (0, [.null, .int 0, .int 0]))) a (.inr (0, [.ref (mD μ), .int 0, .int 0]))) := pV_at _ h1 l (show 0 < 3 by decide)
  rw [set_set] at p1
  simp only [rc_at h, b1_some, b2_some, p0]
  exact (congrArg (fun z => b1 z (fun m8 => some ((), m8))) p1)
theorem acI_at {μ : Mem} {a0 a1 n0 n1 n t : Nat} {f g : Nat → Int32} (h0 : mF μ a0 = some (.inl (t, n0, .inl f))) (h1 : mF μ a1 = some (.inl (t, n1, .inl g))) (hn0 : n ≤ n0) (hn1 : n ≤ n1) (hn : n < 2 ^ 31) (l : mW μ ≤ a1) : acI μ (some a0) 0 (some a1) 0 (i32 n) t = some (m_set μ a1 (.inl (t, n1, .inl (va_cpy f g 0 0 n)))) := by
  unfold acI
  rw [aC_at h0, aC_at h1]
  dsimp only
  rw [i32_nat hn, if_neg]
  · rfl
  · have h00 : ¬ ((0 : Int32) < 0) := by decide
    have hz : (0 : Int32).toNatClampNeg = 0 := rfl
    rw [hz]
    have hnn := i32_nn hn
    intro q
    rcases q with q | q | q | q | q | q
    · exact h00 q
    · exact h00 q
    · exact hnn q
    · omega
    · omega
    · omega
/-- Arrays.copyOf of ints: a new array with the first n -/
theorem As_copyOf_eq {μ : Mem} {a n0 n : Nat} {f : Nat → Int32} (w : WF μ) (h : mF μ a = some (.inl (0, n0, .inl f))) (hD : a ≠ mD μ) (hn : n ≤ n0) (h8 : n0 ≤ 8) : ∃ μ' g, S_As_copyOf (some a) (i32 n) μ = some (some (mN μ), μ') ∧ Fr (mN μ) μ μ' ∧ mF μ' (mN μ) = some (.inl (0, n, .inl g)) ∧ (∀ k, k < n → g k = f k) ∧ mN μ' = mN μ + 1 := by
  unfold S_As_copyOf
  rw [aLen_at h hD (by decide), b1_some]
  have lt := w.lt h
  by_cases hq : n = n0
  · subst hq
    refine ⟨m_push μ (.inl (0, n, .inl f)), f, ?_, (Fr.rf w).push (Nat.le_refl _) _, push_at _ _, fun _ _ => rfl, rfl⟩
    rw [if_pos rfl]
    unfold clI
    rw [aC_at h]
    dsimp only
    rw [if_neg (by omega), b2_some]
    unfold cKA
    rw [aC_at (push_at _ _)]
    rfl
  · rw [if_neg (fun q => hq ((i32_inj (by omega) (by omega)).mp q)), nI_at (by omega) (by omega), b2_some]
    have h1 := (push_ne μ (.inl (0, n, .inl (fun _ => 0))) (Nat.ne_of_lt lt)).trans h
    have h2 := push_at μ (.inl (0, n, .inl (fun _ => 0)))
    rw [aLen_at h1 hD (by decide), b1_some, Ma_min_eq, b1_some, if_pos ((i32_lt (by omega) (by omega)).mpr (by omega)), acI_at h1 h2 hn (Nat.le_refl _) (by omega) w.1.2, b1_some]
    refine ⟨_, _, rfl, ((Fr.rf w).push (Nat.le_refl _) _).set (Nat.le_refl _) h2 _, set_at _ _ _, fun k hk => ?_, rfl⟩
    unfold va_cpy
    rw [if_pos (by omega)]
    congr 1
    omega
