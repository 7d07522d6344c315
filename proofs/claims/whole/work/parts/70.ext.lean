/-! roles: each address that may be written has a number of its own; 0 is what is never written again, 1 the reference's block -/
def WF (μ : Mem) : Prop := (mD μ < mW μ ∧ mW μ ≤ mN μ) ∧ ∀ a, mN μ ≤ a → mF μ a = none
def LO (μ : Mem) : Prop := ∀ a e, mF μ a = some e → mW μ ≤ a
def Is (ro : Nat → Nat) (μ : Mem) (a r : Nat) (e : ME) : Prop := mF μ a = some e ∧ ro a = r
def Ext (W : Nat → Prop) (ro : Nat → Nat) (μ : Mem) (ro' : Nat → Nat) (μ' : Mem) : Prop :=
  mE μ' = mE μ ∧ mW μ' = mW μ ∧ mN μ ≤ mN μ' ∧ WF μ' ∧ (∀ a e, mF μ' a = some e → mN μ ≤ a ∨ ∃ e0, mF μ a = some e0) ∧ ∀ a e, mF μ a = some e → ro' a = ro a ∧ (∃ e', mF μ' a = some e') ∧ (¬ W (ro a) → mF μ' a = some e)
theorem WF.lt {μ : Mem} (h : WF μ) {a : Nat} {e : ME} (ha : mF μ a = some e) : a < mN μ := by
  rcases Nat.lt_or_ge a (mN μ) with h1 | h1
  · exact h1
  · rw [h.2 a h1] at ha
    cases ha
theorem Is.lt {ro : Nat → Nat} {μ : Mem} {a r : Nat} {e : ME} (h : Is ro μ a r e) (w : WF μ) : a < mN μ := w.lt h.1
theorem Is.ne {ro : Nat → Nat} {μ : Mem} {a r a' r' : Nat} {e e' : ME} (h : Is ro μ a r e) (h' : Is ro μ a' r' e') (hr : r ≠ r') : a ≠ a' := by
  intro q
  subst q
  exact hr (h.2.symm.trans h'.2)
theorem Ext.rf {W : Nat → Prop} {ro : Nat → Nat} {μ : Mem} (h : WF μ) : Ext W ro μ ro μ := ⟨rfl, rfl, Nat.le_refl _, h, fun a e ha => .inr ⟨e, ha⟩, fun a e ha => ⟨rfl, ⟨e, ha⟩, fun _ => ha⟩⟩
theorem Ext.tr {W : Nat → Prop} {r1 r2 r3 : Nat → Nat} {m1 m2 m3 : Mem} (h : Ext W r1 m1 r2 m2) (k : Ext W r2 m2 r3 m3) : Ext W r1 m1 r3 m3 := by
  obtain ⟨h1, h2, h3, h4, h5, h6⟩ := h
  obtain ⟨k1, k2, k3, k4, k5, k6⟩ := k
  refine ⟨k1.trans h1, k2.trans h2, Nat.le_trans h3 k3, k4, fun a e ha => ?_, fun a e ha => ?_⟩
  · rcases k5 a e ha with q | ⟨e0, q⟩
    · exact .inl (Nat.le_trans h3 q)
    · exact h5 a e0 q
  · obtain ⟨p1, ⟨e2, p2⟩, p3⟩ := h6 a e ha
    obtain ⟨q1, ⟨e3, q2⟩, q3⟩ := k6 a e2 p2
    refine ⟨q1.trans p1, ⟨e3, q2⟩, fun hw => ?_⟩
    have e1 := p3 hw
    exact (k6 a e e1).2.2 (by rw [p1]; exact hw)
theorem Ext.mono {W W' : Nat → Prop} {r1 r2 : Nat → Nat} {m1 m2 : Mem} (h : Ext W r1 m1 r2 m2) (hw : ∀ r, W r → W' r) : Ext W' r1 m1 r2 m2 := by
  obtain ⟨h1, h2, h3, h4, h5, h6⟩ := h
  exact ⟨h1, h2, h3, h4, h5, fun a e ha => ⟨(h6 a e ha).1, (h6 a e ha).2.1, fun q => (h6 a e ha).2.2 (fun q2 => q (hw _ q2))⟩⟩
theorem Ext.set {W : Nat → Prop} {ro : Nat → Nat} {μ : Mem} (h : WF μ) {a r : Nat} {e0 : ME} (ha : Is ro μ a r e0) (hw : W r) (e : ME) : Ext W ro μ ro (m_set μ a e) := by
  refine ⟨rfl, rfl, Nat.le_refl _, ⟨h.1, fun q hq => ?_⟩, fun q d hq => ?_, fun q d hq => ⟨rfl, ?_, fun hn => ?_⟩⟩
  · have : q ≠ a := by have := ha.lt h; have : mN μ ≤ q := hq; omega
    rw [set_ne _ _ this]
    exact h.2 q hq
  · by_cases hqa : q = a
    · subst hqa; exact .inr ⟨e0, ha.1⟩
    · rw [set_ne _ _ hqa] at hq; exact .inr ⟨d, hq⟩
  · by_cases hqa : q = a
    · subst hqa; exact ⟨e, set_at _ _ _⟩
    · exact ⟨d, (set_ne _ _ hqa).trans hq⟩
  · have hqa : q ≠ a := by
      intro q2; subst q2; rw [ha.2] at hn; exact hn hw
    exact (set_ne _ _ hqa).trans hq
theorem Ext.push {W : Nat → Prop} {ro : Nat → Nat} {μ : Mem} (h : WF μ) (r : Nat) (e : ME) : Ext W ro μ (va_up ro (mN μ) r) (m_push μ e) := by
  refine ⟨rfl, rfl, Nat.le_succ _, ⟨⟨h.1.1, Nat.le_succ_of_le h.1.2⟩, fun q hq => ?_⟩, fun q d hq => ?_, fun q d hq => ?_⟩
  · have hq : mN μ + 1 ≤ q := hq
    rw [push_ne _ _ (by omega)]
    exact h.2 q (by omega)
  · by_cases hqa : q = mN μ
    · exact .inl (by omega)
    · rw [push_ne _ _ hqa] at hq; exact .inr ⟨d, hq⟩
  · have hlt := h.lt hq
    exact ⟨va_up_ne _ _ (by omega), ⟨d, (push_ne _ _ (by omega)).trans hq⟩, fun _ => (push_ne _ _ (by omega)).trans hq⟩
theorem Is.ext {W : Nat → Prop} {ro ro' : Nat → Nat} {μ μ' : Mem} {a r : Nat} {e : ME} (h : Is ro μ a r e) (k : Ext W ro μ ro' μ') (hw : ¬ W r) : Is ro' μ' a r e := by
  obtain ⟨k1, k2, k3⟩ := k.2.2.2.2.2 a e h.1
  exact ⟨k3 (by rw [h.2]; exact hw), k1.trans h.2⟩
theorem Is.set (ro : Nat → Nat) {μ : Mem} {a r : Nat} {e0 : ME} (h : Is ro μ a r e0) (e : ME) : Is ro (m_set μ a e) a r e := ⟨set_at _ _ _, h.2⟩
theorem Is.new (ro : Nat → Nat) (μ : Mem) (r : Nat) (e : ME) : Is (va_up ro (mN μ) r) (m_push μ e) (mN μ) r e := ⟨push_at _ _, va_up_self _ _ _⟩
theorem Is.keep {ro : Nat → Nat} {μ : Mem} {a r a0 r0 : Nat} {e e0 : ME} (h : Is ro μ a r e) (h0 : Is ro μ a0 r0 e0) (hr : r ≠ r0) (d : ME) : Is ro (m_set μ a0 d) a r e := ⟨(set_ne _ _ (h.ne h0 hr)).trans h.1, h.2⟩
theorem Is.old {ro : Nat → Nat} {μ : Mem} {a r : Nat} {e : ME} (h : Is ro μ a r e) (w : WF μ) (r' : Nat) (d : ME) : Is (va_up ro (mN μ) r') (m_push μ d) a r e := by
  have := h.lt w
  exact ⟨(push_ne _ _ (by omega)).trans h.1, (va_up_ne _ _ (by omega)).trans h.2⟩
theorem Ext.wf {W : Nat → Prop} {ro ro' : Nat → Nat} {μ μ' : Mem} (k : Ext W ro μ ro' μ') : WF μ' := k.2.2.2.1
theorem Ext.hd {W : Nat → Prop} {ro ro' : Nat → Nat} {μ μ' : Mem} (k : Ext W ro μ ro' μ') : mD μ' = mD μ := congrArg (·.1) k.1
theorem Ext.lo {W : Nat → Prop} {ro ro' : Nat → Nat} {μ μ' : Mem} (k : Ext W ro μ ro' μ') (w : WF μ) (h : LO μ) : LO μ' := by
  intro a e ha
  rw [k.2.1]
  rcases k.2.2.2.2.1 a e ha with q | ⟨e0, q⟩
  · exact Nat.le_trans w.1.2 q
  · exact h a e0 q
/-! the things that never change -/
def CO0 (ro : Nat → Nat) (μ : Mem) (a n : Nat) (X Y : Nat → Int32) : Prop := ∃ ax ay fx fy, Is ro μ a 0 (.inr (2, [.int (i32 n), .ref ax, .ref ay])) ∧ Is ro μ ax 0 (.inl (0, n, .inl fx)) ∧ Is ro μ ay 0 (.inl (0, n, .inl fy)) ∧ (∀ k, k < n → fx k = X k ∧ fy k = Y k) ∧ n ≤ 8
theorem CO0.co {ro : Nat → Nat} {μ : Mem} {a n : Nat} {X Y : Nat → Int32} (h : CO0 ro μ a n X Y) : CO μ a n X Y := by
  obtain ⟨ax, ay, fx, fy, h1, h2, h3, h4, h5⟩ := h
  exact ⟨ax, ay, fx, fy, h1.1, h2.1, h3.1, h4, h5⟩
theorem CO0.ext {W : Nat → Prop} {ro ro' : Nat → Nat} {μ μ' : Mem} {a n : Nat} {X Y : Nat → Int32} (h : CO0 ro μ a n X Y) (k : Ext W ro μ ro' μ') (hw : ¬ W 0) : CO0 ro' μ' a n X Y := by
  obtain ⟨ax, ay, fx, fy, h1, h2, h3, h4, h5⟩ := h
  exact ⟨ax, ay, fx, fy, h1.ext k hw, h2.ext k hw, h3.ext k hw, h4, h5⟩
theorem CO0.fn {ro : Nat → Nat} {μ : Mem} {a n : Nat} {X Y X' Y' : Nat → Int32} (h : CO0 ro μ a n X Y) (hX : ∀ k, k < n → X k = X' k ∧ Y k = Y' k) : CO0 ro μ a n X' Y' := by
  obtain ⟨ax, ay, fx, fy, h1, h2, h3, h4, h5⟩ := h
  exact ⟨ax, ay, fx, fy, h1, h2, h3, fun k hk => ⟨(h4 k hk).1.trans (hX k hk).1, (h4 k hk).2.trans (hX k hk).2⟩, h5⟩
def WO0 (ro : Nat → Nat) (μ : Mem) (a n : Nat) (w : Nat → Int32) : Prop := ∃ al cap f, Is ro μ a 0 (.inr (10, [.ref al, .int (i32 n)])) ∧ Is ro μ al 0 (.inl (2, cap, .inl f)) ∧ n ≤ cap ∧ cap ≤ 10 ∧ ∀ k, k < n → f k = w k
theorem WO0.wo {ro : Nat → Nat} {μ : Mem} {a n : Nat} {w : Nat → Int32} (h : WO0 ro μ a n w) : WO μ a n w := by
  obtain ⟨al, cap, f, h1, h2, h3⟩ := h
  exact ⟨al, cap, f, h1.1, h2.1, h3⟩
theorem WO0.ext {W : Nat → Prop} {ro ro' : Nat → Nat} {μ μ' : Mem} {a n : Nat} {w : Nat → Int32} (h : WO0 ro μ a n w) (k : Ext W ro μ ro' μ') (hw : ¬ W 0) : WO0 ro' μ' a n w := by
  obtain ⟨al, cap, f, h1, h2, h3⟩ := h
  exact ⟨al, cap, f, h1.ext k hw, h2.ext k hw, h3⟩
theorem WO0.fn {ro : Nat → Nat} {μ : Mem} {a n : Nat} {w w' : Nat → Int32} (h : WO0 ro μ a n w) (hw : ∀ k, k < n → w k = w' k) : WO0 ro μ a n w' := by
  obtain ⟨al, cap, f, h1, h2, h3, h4, h5⟩ := h
  exact ⟨al, cap, f, h1, h2, h3, h4, fun k hk => (h5 k hk).trans (hw k hk)⟩
def CN0 (ro : Nat → Nat) (μ : Mem) (a : Nat) (kind x y z : Int32) (n : Nat) (w : Nat → Int32) : Prop := ∃ wo, Is ro μ a 0 (.inr (1, [.int kind, .int x, .int y, .int z, .ref wo])) ∧ WO0 ro μ wo n w
theorem CN0.ext {W : Nat → Prop} {ro ro' : Nat → Nat} {μ μ' : Mem} {a n : Nat} {kind x y z : Int32} {w : Nat → Int32} (h : CN0 ro μ a kind x y z n w) (k : Ext W ro μ ro' μ') (hw : ¬ W 0) : CN0 ro' μ' a kind x y z n w := by
  obtain ⟨wo, h1, h2⟩ := h
  exact ⟨wo, h1.ext k hw, h2.ext k hw⟩
def NA0 (ro : Nat → Nat) (μ : Mem) (a : Nat) (f t : Int32) (n : Nat) (w : Nat → Int32) : Prop := ∃ wo, Is ro μ a 0 (.inr (6, [.ref wo, .int f, .int t])) ∧ WO0 ro μ wo n w
theorem NA0.ext {W : Nat → Prop} {ro ro' : Nat → Nat} {μ μ' : Mem} {a n : Nat} {f t : Int32} {w : Nat → Int32} (h : NA0 ro μ a f t n w) (k : Ext W ro μ ro' μ') (hw : ¬ W 0) : NA0 ro' μ' a f t n w := by
  obtain ⟨wo, h1, h2⟩ := h
  exact ⟨wo, h1.ext k hw, h2.ext k hw⟩
def LK0 (ro : Nat → Nat) (μ : Mem) (a ab : Nat) (f t : Int32) : Prop := Is ro μ a 0 (.inr (5, [.ref ab, .int f, .int t]))
/-! lists -/
def capQ (c : Nat) : Prop := c = 10 ∨ c = 15 ∨ c = 22 ∨ c = 33
def AR (ro : Nat → Nat) (μ : Mem) (a r n : Nat) (e : Nat → Nat) : Prop := ∃ ad mc, Is ro μ a r (.inr (0, [.ref ad, .int (i32 n), .int mc])) ∧ ((ad = mD μ ∧ n = 0) ∨ (ad ≠ mD μ ∧ ∃ cap f, Is ro μ ad (r + 1) (.inl (4, cap, .inr (.inr (.inr (.inr f))))) ∧ n ≤ cap ∧ capQ cap ∧ ∀ k, k < n → f k = some (e k)))
theorem AR.al {ro : Nat → Nat} {μ : Mem} {a r n : Nat} {e : Nat → Nat} (h : AR ro μ a r n e) : ∃ ad, AL μ a n e ad := by
  obtain ⟨ad, mc, h1, h2⟩ := h
  refine ⟨ad, mc, h1.1, ?_⟩
  rcases h2 with h2 | ⟨h2, cap, f, h3, h4, h5, h6⟩
  · exact .inl h2
  · exact .inr ⟨h2, cap, f, h3.1, h4, by unfold capQ at h5; omega, by unfold capQ at h5; omega, h6⟩
theorem AR.ext {W : Nat → Prop} {ro ro' : Nat → Nat} {μ μ' : Mem} {a r n : Nat} {e : Nat → Nat} (h : AR ro μ a r n e) (k : Ext W ro μ ro' μ') (hw : ¬ W r) (hw1 : ¬ W (r + 1)) : AR ro' μ' a r n e := by
  obtain ⟨ad, mc, h1, h2⟩ := h
  refine ⟨ad, mc, h1.ext k hw, ?_⟩
  rw [k.hd]
  rcases h2 with h2 | ⟨h2, cap, f, h3, h4⟩
  · exact .inl h2
  · exact .inr ⟨h2, cap, f, h3.ext k hw1, h4⟩
theorem AR.fn {ro : Nat → Nat} {μ : Mem} {a r n : Nat} {e e' : Nat → Nat} (h : AR ro μ a r n e) (he : ∀ k, k < n → e k = e' k) : AR ro μ a r n e' := by
  obtain ⟨ad, mc, h1, h2⟩ := h
  refine ⟨ad, mc, h1, ?_⟩
  rcases h2 with h2 | ⟨h2, cap, f, h3, h4, h5, h6⟩
  · exact .inl h2
  · exact .inr ⟨h2, cap, f, h3, h4, h5, fun k hk => by rw [h6 k hk, he k hk]⟩
theorem AR.size {ro : Nat → Nat} {μ : Mem} {a r n : Nat} {e : Nat → Nat} (h : AR ro μ a r n e) : S_Al_size (some a) μ = some (i32 n) := by
  obtain ⟨ad, h⟩ := h.al
  exact Al_size_eq h
theorem AR.rc {ro : Nat → Nat} {μ : Mem} {a r n : Nat} {e : Nat → Nat} (h : AR ro μ a r n e) : rc μ (some a) 0 = some () := by
  obtain ⟨ad, h⟩ := h.al
  exact AL.rc h
theorem AR.get {ro : Nat → Nat} {μ : Mem} {a r n : Nat} {e : Nat → Nat} (h : AR ro μ a r n e) {k : Nat} (hk : k < n) : S_Al_get (some a) (i32 k) μ = some (some (e k)) := by
  obtain ⟨ad, h⟩ := h.al
  exact Al_get_eq h hk
