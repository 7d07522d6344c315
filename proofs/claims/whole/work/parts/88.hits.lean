/-! the hits: putting one in its place -/
def posF (gt : Nat → Bool) : Nat → Nat
  | 0 => 0
  | m + 1 => if gt m then posF gt m else m + 1
theorem posF_le (gt : Nat → Bool) (n : Nat) : posF gt n ≤ n := by
  induction n with
  | zero => exact Nat.le_refl _
  | succ n ih =>
    unfold posF
    split <;> omega
def shA {α : Type} (f : Nat → α) (n p : Nat) (x : α) : Nat → α := fun k => if k < p then f k else if k = p then x else if k ≤ n then f (k - 1) else f k
theorem shA_step {α : Type} (f f1 : Nat → α) {a p : Nat} (x : α) (hp : p ≤ a) (h1 : f1 (a + 1) = f a) (h2 : ∀ k, k ≠ a + 1 → f1 k = f k) : shA f1 a p x = shA f (a + 1) p x := by
  funext k
  unfold shA
  by_cases c1 : k < p
  · rw [if_pos c1, if_pos c1, h2 k (by omega)]
  · rw [if_neg c1, if_neg c1]
    by_cases c2 : k = p
    · rw [if_pos c2, if_pos c2]
    · rw [if_neg c2, if_neg c2]
      by_cases c3 : k ≤ a
      · rw [if_pos c3, if_pos (by omega), h2 (k - 1) (by omega)]
      · rw [if_neg c3]
        by_cases c4 : k = a + 1
        · rw [if_pos (by omega), c4, h1]
          rfl
        · rw [if_neg (by omega), h2 k c4]
theorem shA_top {α : Type} (f f1 : Nat → α) {a : Nat} (x : α) (h1 : f1 a = x) (h2 : ∀ k, k ≠ a → f1 k = f k) : f1 = shA f a a x := by
  funext k
  unfold shA
  by_cases c1 : k < a
  · rw [if_pos c1, h2 k (by omega)]
  · rw [if_neg c1]
    by_cases c2 : k = a
    · rw [if_pos c2, c2, h1]
    · rw [if_neg c2, if_neg (by omega), h2 k c2]
theorem lg_le {x y : Int64} : (lg_cmp x y ≤ 0) ↔ ¬ y < x := by
  unfold lg_cmp
  by_cases h : x > y
  · rw [if_pos h]
    exact ⟨fun q => absurd q (by decide), fun q => absurd h q⟩
  · rw [if_neg h]
    refine ⟨fun _ => h, fun _ => ?_⟩
    split <;> decide
theorem i32_pm (m : Nat) : i32 (m + 1) + (-1) = i32 m := (Int32.sub_eq_add_neg (i32 (m + 1)) 1).symm.trans (i32_m1 m)
def WH (r : Nat) : Prop := r = 11 ∨ r = 12 ∨ r = 13
theorem updL_ne (f : Nat → Int64) {k j : Nat} (x : Int64) (h : j ≠ k) : vp_updL f k x j = f j := if_neg h
theorem updL_at (f : Nat → Int64) (k : Nat) (x : Int64) : vp_updL f k x k = x := if_pos rfl
theorem Hi_ins {ro : Nat → Nat} {H an ak n : Nat} {num : Int32} {key : Int64} {g0 : Nat → Int64} (hn : n < 30) (m : Nat) : ∀ (fuel : Nat) (μ : Mem) (f : Nat → Int32) (g : Nat → Int64), m ≤ n → WF μ → LO μ → Is ro μ H 11 (.inr (4, [.ref an, .ref ak, .int (i32 n)])) → Is ro μ an 12 (.inl (0, 30, .inl f)) → Is ro μ ak 13 (.inl (1, 30, .inr (.inl g))) → (∀ j, j < m → g j = g0 j) → m < fuel → ∃ μ', B_Hi_add_16 fuel (some H) num key (i32 m) μ = some ((), μ') ∧ Ext WH ro μ ro μ' ∧ Is ro μ' H 11 (.inr (4, [.ref an, .ref ak, .int (i32 (n + 1))])) ∧ Is ro μ' an 12 (.inl (0, 30, .inl (shA f m (posF (fun j => decide (key < g0 j)) m) num))) ∧ Is ro μ' ak 13 (.inl (1, 30, .inr (.inl (shA g m (posF (fun j => decide (key < g0 j)) m) key)))) := by
  have h73 : ∀ (a : Nat) (μ : Mem) (f : Nat → Int32) (g : Nat → Int64), a ≤ n → WF μ → LO μ → Is ro μ H 11 (.inr (4, [.ref an, .ref ak, .int (i32 n)])) → Is ro μ an 12 (.inl (0, 30, .inl f)) → Is ro μ ak 13 (.inl (1, 30, .inr (.inl g))) → ∃ μ', B_Hi_add_73 (some H) num key (i32 a) μ = some ((), μ') ∧ Ext WH ro μ ro μ' ∧ Is ro μ' H 11 (.inr (4, [.ref an, .ref ak, .int (i32 (n + 1))])) ∧ Is ro μ' an 12 (.inl (0, 30, .inl (shA f a a num))) ∧ Is ro μ' ak 13 (.inl (1, 30, .inr (.inl (shA g a a key)))) := by
    intro a μ f g ha w lo h1 h2 h3
    have k1 : Ext WH ro μ ro (m_set μ ak (.inl (1, 30, .inr (.inl (vp_updL g a key))))) := Ext.set w h3 (.inr (.inr rfl)) _
    have s1 : sL μ (some ak) 1 (i32 a) key = some _ := sL_at key h3.1 (h3.low lo) (by omega) (by decide)
    have i1 := h1.keep h3 (by decide) (.inl (1, 30, .inr (.inl (vp_updL g a key))))
    have j1 := h2.keep h3 (by decide) (.inl (1, 30, .inr (.inl (vp_updL g a key))))
    have l1 := h3.set ro (.inl (1, 30, .inr (.inl (vp_updL g a key))))
    have w1 := k1.wf
    have lo1 := k1.lo w lo
    generalize m_set μ ak (.inl (1, 30, .inr (.inl (vp_updL g a key)))) = μ1 at *
    have k2 : Ext WH ro μ1 ro (m_set μ1 an (.inl (0, 30, .inl (upd f a num)))) := Ext.set w1 j1 (.inr (.inl rfl)) _
    have s2 : sI μ1 (some an) 0 (i32 a) num = some _ := sI_at num j1.1 (j1.low lo1) (by omega) (by decide)
    have i2 := i1.keep j1 (by decide) (.inl (0, 30, .inl (upd f a num)))
    have j2 := j1.set ro (.inl (0, 30, .inl (upd f a num)))
    have l2 := l1.keep j1 (by decide) (.inl (0, 30, .inl (upd f a num)))
    have w2 := k2.wf
    have lo2 := k2.lo w1 lo1
    generalize m_set μ1 an (.inl (0, 30, .inl (upd f a num))) = μ2 at *
    have k3 : Ext WH ro μ2 ro (m_set μ2 H (.inr (4, [.ref an, .ref ak, .int (i32 (n + 1))]))) := Ext.set w2 i2 (.inl rfl) _
    have s3 : pV μ2 (some H) 4 2 (vI (i32 n + 1)) = some (m_set μ2 H (.inr (4, [.ref an, .ref ak, .int (i32 (n + 1))]))) := by
      rw [i32_succ]
      exact pV_at _ i2.1 (i2.low lo2) (show 2 < 3 by decide)
    refine ⟨_, ?_, (k1.tr k2).tr k3, i2.set ro _, ?_, ?_⟩
    · unfold B_Hi_add_73
      rw [gR_at h1.1 (k := 1) rfl, b1_some, s1, b1_some, gR_at i1.1 (k := 0) rfl, b1_some, s2, b1_some, gI_at i2.1 (k := 2) rfl, b1_some, s3, b1_some]
    · rw [← shA_top f (upd f a num) num (upd_at _ _ _) (fun k hk => upd_ne _ _ hk)]
      exact j2.keep i2 (by decide) _
    · rw [← shA_top g (vp_updL g a key) key (updL_at _ _ _) (fun k hk => updL_ne _ _ hk)]
      exact l2.keep i2 (by decide) _
  induction m with
  | zero =>
    intro fuel μ f g hm w lo h1 h2 h3 hg hf
    cases fuel with
    | zero => omega
    | succ fuel =>
      obtain ⟨μ', q1, q2⟩ := h73 0 μ f g (Nat.zero_le _) w lo h1 h2 h3
      refine ⟨μ', ?_, q2⟩
      show (if i32 0 ≤ 0 then B_Hi_add_73 (some H) num key (i32 0) μ else _) = _
      rw [if_pos (by decide), q1]
  | succ m ih =>
    intro fuel μ f g hm w lo h1 h2 h3 hg hf
    cases fuel with
    | zero => omega
    | succ fuel =>
      have ni : ¬ i32 (m + 1) ≤ 0 := fun q => by have := (i32_le (b := 0) (by omega) (by decide)).mp q; omega
      have vk : aL μ (some ak) 1 (i32 m) = some (g m) := aL_at h3.1 (by omega) (by decide)
      unfold posF
      by_cases hgt : key < g m
      · have hdec : decide (key < g0 m) = true := by rw [← hg m (by omega)]; exact decide_eq_true hgt
        rw [if_pos hdec]
        have k1 : Ext WH ro μ ro (m_set μ ak (.inl (1, 30, .inr (.inl (vp_updL g (m + 1) (g m)))))) := Ext.set w h3 (.inr (.inr rfl)) _
        have s1 : sL μ (some ak) 1 (i32 (m + 1)) (g m) = some _ := sL_at (g m) h3.1 (h3.low lo) (by omega) (by decide)
        have i1 := h1.keep h3 (by decide) (.inl (1, 30, .inr (.inl (vp_updL g (m + 1) (g m)))))
        have j1 := h2.keep h3 (by decide) (.inl (1, 30, .inr (.inl (vp_updL g (m + 1) (g m)))))
        have l1 := h3.set ro (.inl (1, 30, .inr (.inl (vp_updL g (m + 1) (g m)))))
        have w1 := k1.wf
        have lo1 := k1.lo w lo
        generalize m_set μ ak (.inl (1, 30, .inr (.inl (vp_updL g (m + 1) (g m))))) = μ1 at *
        have k2 : Ext WH ro μ1 ro (m_set μ1 an (.inl (0, 30, .inl (upd f (m + 1) (f m))))) := Ext.set w1 j1 (.inr (.inl rfl)) _
        have s2 : sI μ1 (some an) 0 (i32 (m + 1)) (f m) = some _ := sI_at (f m) j1.1 (j1.low lo1) (by omega) (by decide)
        have i2 := i1.keep j1 (by decide) (.inl (0, 30, .inl (upd f (m + 1) (f m))))
        have j2 := j1.set ro (.inl (0, 30, .inl (upd f (m + 1) (f m))))
        have l2 := l1.keep j1 (by decide) (.inl (0, 30, .inl (upd f (m + 1) (f m))))
        have w2 := k2.wf
        have lo2 := k2.lo w1 lo1
        generalize m_set μ1 an (.inl (0, 30, .inl (upd f (m + 1) (f m)))) = μ2 at *
        obtain ⟨μ', q1, q2, q3, q4, q5⟩ := ih fuel μ2 _ _ (by omega) w2 lo2 i2 j2 l2 (fun j hj => by rw [updL_ne _ _ (by omega)]; exact hg j (by omega)) (by omega)
        rw [shA_step f (upd f (m + 1) (f m)) num (posF_le _ m) (upd_at _ _ _) (fun k hk => upd_ne _ _ hk)] at q4
        rw [shA_step g (vp_updL g (m + 1) (g m)) key (posF_le _ m) (updL_at _ _ _) (fun k hk => updL_ne _ _ hk)] at q5
        refine ⟨μ', ?_, (k1.tr k2).tr q2, q3, q4, q5⟩
        show (if i32 (m + 1) ≤ 0 then _ else b1 (gR μ (some H) 4 1) (fun x22 => b1 (aL μ x22 1 (i32 (m + 1) - 1)) (fun x29 => if lg_cmp x29 key ≤ 0 then B_Hi_add_73 (some H) num key (i32 (m + 1)) μ else b1 (gR μ (some H) 4 1) (fun x36 => b1 (gR μ (some H) 4 1) (fun x42 => b1 (aL μ x42 1 (i32 (m + 1) - 1)) (fun x49 => b1 (sL μ x36 1 (i32 (m + 1)) x49) (fun m50 => b1 (gR m50 (some H) 4 0) (fun x52 => b1 (gR m50 (some H) 4 0) (fun x58 => b1 (aI m50 x58 0 (i32 (m + 1) - 1)) (fun x65 => b1 (sI m50 x52 0 (i32 (m + 1)) x65) (fun m66 => B_Hi_add_16 fuel (some H) num key (i32 (m + 1) + (-1)) m66))))))))))) = _
        rw [if_neg ni, gR_at h1.1 (k := 1) rfl, b1_some, i32_m1, vk, b1_some, if_neg (fun q => (lg_le.mp q) hgt), b1_some, b1_some, vk, b1_some, s1, b1_some, gR_at i1.1 (k := 0) rfl, b1_some, b1_some, aI_at j1.1 (show m < 30 by omega) (by decide), b1_some, s2, b1_some, i32_pm, q1]
      · have hdec : ¬ decide (key < g0 m) = true := by rw [← hg m (by omega)]; simpa using hgt
        rw [if_neg hdec]
        obtain ⟨μ', q1, q2⟩ := h73 (m + 1) μ f g hm w lo h1 h2 h3
        refine ⟨μ', ?_, q2⟩
        show (if i32 (m + 1) ≤ 0 then _ else b1 (gR μ (some H) 4 1) (fun x22 => b1 (aL μ x22 1 (i32 (m + 1) - 1)) (fun x29 => if lg_cmp x29 key ≤ 0 then B_Hi_add_73 (some H) num key (i32 (m + 1)) μ else _))) = _
        rw [if_neg ni, gR_at h1.1 (k := 1) rfl, b1_some, i32_m1, vk, b1_some, if_pos (lg_le.mpr hgt), q1]
theorem Hi_add_eq {ro : Nat → Nat} {μ : Mem} {H an ak n : Nat} {f : Nat → Int32} {g : Nat → Int64} (num : Int32) (key : Int64) (hn : n < 30) (w : WF μ) (lo : LO μ) (h1 : Is ro μ H 11 (.inr (4, [.ref an, .ref ak, .int (i32 n)]))) (h2 : Is ro μ an 12 (.inl (0, 30, .inl f))) (h3 : Is ro μ ak 13 (.inl (1, 30, .inr (.inl g)))) : ∃ μ', S_Hi_add (some H) num key μ = some ((), μ') ∧ Ext WH ro μ ro μ' ∧ Is ro μ' H 11 (.inr (4, [.ref an, .ref ak, .int (i32 (n + 1))])) ∧ Is ro μ' an 12 (.inl (0, 30, .inl (shA f n (posF (fun j => decide (key < g j)) n) num))) ∧ Is ro μ' ak 13 (.inl (1, 30, .inr (.inl (shA g n (posF (fun j => decide (key < g j)) n) key)))) := by
  obtain ⟨μ', q1, q2⟩ := Hi_ins (num := num) (key := key) (g0 := g) hn n fu μ f g (Nat.le_refl _) w lo h1 h2 h3 (fun _ _ => rfl) (by show n < 4096; omega)
  refine ⟨μ', ?_, q2⟩
  unfold S_Hi_add
  rw [gI_at h1.1 (k := 2) rfl, b1_some, if_pos (show i32 n < (30 : Int32) from (i32_lt (b := 30) (by omega) (by decide)).mpr hn), b1_some, q1]
/-- the reference's insert -/
theorem R_ins {ρ : RS} {id n : Nat} {order : Int32} {gt : Nat → Bool} {h0 : Nat → Int32} (hn : n < 30) (m : Nat) : ∀ (fuel : Nat) (F : Nat → Int32), m ≤ n → (∀ j, j < m → F j = h0 j) → (∀ F' j, j < m → ∃ c : Int32, R_M_compareKeys (h0 j) (i32 id) order (rset ρ 37 F') = some c ∧ (c ≤ 0 ↔ gt j = false)) → ri ρ 36 = i32 n → m < fuel → RB_M_insert_5 fuel (i32 id) order (i32 m) (rset ρ 37 F) = some ((), rpI (rset ρ 37 (shA F m (posF gt m) (i32 id))) 36 (i32 (n + 1))) := by
  have h46 : ∀ (a : Nat) (F : Nat → Int32), a ≤ n → ri ρ 36 = i32 n → RB_M_insert_46 (i32 id) (i32 a) (rset ρ 37 F) = some ((), rpI (rset ρ 37 (shA F a a (i32 id))) 36 (i32 (n + 1))) := by
    intro a F ha h36
    unfold RB_M_insert_46
    rw [rsI_at (by omega) (by decide), b1_some, b0_eq, rs2, show ri (rset ρ 37 (upd (ra (rset ρ 37 F) 37) a (i32 id))) 36 = i32 n from h36, i32_succ, show ra (rset ρ 37 F) 37 = F from rfl, ← shA_top F (upd F a (i32 id)) (i32 id) (upd_at _ _ _) (fun k hk => upd_ne _ _ hk)]
  induction m with
  | zero =>
    intro fuel F hm hF hc h36 hf
    cases fuel with
    | zero => omega
    | succ fuel =>
      show (if i32 0 ≤ 0 then RB_M_insert_46 (i32 id) (i32 0) (rset ρ 37 F) else _) = _
      rw [if_pos (by decide), h46 0 F (Nat.zero_le _) h36]
      rfl
  | succ m ih =>
    intro fuel F hm hF hc h36 hf
    cases fuel with
    | zero => omega
    | succ fuel =>
      have ni : ¬ i32 (m + 1) ≤ 0 := fun q => by have := (i32_le (b := 0) (by omega) (by decide)).mp q; omega
      obtain ⟨c, c1, c2⟩ := hc F m (by omega)
      have v37 : rgI (rset ρ 37 F) 37 30 (i32 m) = some (h0 m) := by
        rw [rgI_at (by omega) (by decide), show ra (rset ρ 37 F) 37 = F from rfl, hF m (by omega)]
      unfold posF
      show (if i32 (m + 1) ≤ 0 then _ else b1 (rgI (rset ρ 37 F) 37 30 (i32 (m + 1) - 1)) (fun x17 => b1 (R_M_compareKeys x17 (i32 id) order (rset ρ 37 F)) (fun x20 => if x20 ≤ 0 then RB_M_insert_46 (i32 id) (i32 (m + 1)) (rset ρ 37 F) else b1 (rgI (rset ρ 37 F) 37 30 (i32 (m + 1) - 1)) (fun x38 => b1 (rsI (rset ρ 37 F) 37 30 (i32 (m + 1)) x38) (fun ρ39 => RB_M_insert_5 fuel (i32 id) order (i32 (m + 1) + (-1)) ρ39))))) = _
      rw [if_neg ni, i32_m1, v37, b1_some, c1, b1_some]
      by_cases hgt : gt m = true
      · rw [if_pos hgt, if_neg (fun q => by rw [c2.mp q] at hgt; cases hgt), b1_some, rsI_at (by omega) (by decide), b1_some, rs2, show ra (rset ρ 37 F) 37 = F from rfl, i32_pm, ← hF m (by omega)]
        rw [ih fuel (upd F (m + 1) (F m)) (by omega) (fun j hj => by rw [upd_ne _ _ (by omega)]; exact hF j (by omega)) (fun F' j hj => hc F' j (by omega)) h36 (by omega), shA_step F (upd F (m + 1) (F m)) (i32 id) (posF_le _ m) (upd_at _ _ _) (fun k hk => upd_ne _ _ hk)]
      · have hgt' : gt m = false := by simpa using hgt
        rw [if_neg hgt, if_pos (c2.mpr hgt'), h46 (m + 1) F hm h36]
theorem R_insert_eq {ρ : RS} {id n : Nat} {order : Int32} {gt : Nat → Bool} (hn : n < 30) (h36 : ri ρ 36 = i32 n) (hc : ∀ F' j, j < n → ∃ c : Int32, R_M_compareKeys (ra ρ 37 j) (i32 id) order (rset ρ 37 F') = some c ∧ (c ≤ 0 ↔ gt j = false)) : R_M_insert (i32 id) order ρ = some ((), rpI (rset ρ 37 (shA (ra ρ 37) n (posF gt n) (i32 id))) 36 (i32 (n + 1))) := by
  have hid : rset ρ 37 (ra ρ 37) = ρ := by
    show (ri ρ, rl ρ, va_up (ra ρ) 37 (ra ρ 37), rL ρ) = ρ
    have : va_up (ra ρ) 37 (ra ρ 37) = ra ρ := by
      funext q
      unfold va_up
      grind
    rw [this]
  have := R_ins (ρ := ρ) (id := id) (order := order) (gt := gt) (h0 := ra ρ 37) hn n fu (ra ρ 37) (Nat.le_refl _) (fun _ _ => rfl) hc h36 (by show n < 4096; omega)
  unfold R_M_insert
  rw [b0_eq, h36]
  rw [hid] at this
  exact this
