/-! the reference's state: ints, longs, int arrays, long arrays, each by the number of its field -/
abbrev RS : Type := (Nat → Int32) × (Nat → Int64) × (Nat → Nat → Int32) × (Nat → Nat → Int64)
abbrev ri (ρ : RS) : Nat → Int32 := ρ.1
abbrev rl (ρ : RS) : Nat → Int64 := ρ.2.1
abbrev ra (ρ : RS) : Nat → Nat → Int32 := ρ.2.2.1
abbrev rL (ρ : RS) : Nat → Nat → Int64 := ρ.2.2.2
def rpI (ρ : RS) (k : Nat) (x : Int32) : RS := (va_up (ri ρ) k x, rl ρ, ra ρ, rL ρ)
def rpL (ρ : RS) (k : Nat) (x : Int64) : RS := (ri ρ, va_up (rl ρ) k x, ra ρ, rL ρ)
def rset (ρ : RS) (k : Nat) (f : Nat → Int32) : RS := (ri ρ, rl ρ, va_up (ra ρ) k f, rL ρ)
def rsetL (ρ : RS) (k : Nat) (f : Nat → Int64) : RS := (ri ρ, rl ρ, ra ρ, va_up (rL ρ) k f)
def roff (k : Nat) : Nat := match k with
  | 2 => 1
  | 3 => 2
  | 4 => 3
  | 5 => 4
  | 6 => 5
  | 7 => 6
  | 8 => 7
  | 9 => 8
  | 10 => 9
  | 11 => 10
  | 12 => 11
  | 13 => 12
  | 14 => 13
  | 15 => 14
  | 16 => 15
  | 17 => 16
  | 19 => 17
  | 20 => 18
  | 22 => 19
  | 23 => 20
  | 24 => 21
  | 25 => 22
  | 26 => 23
  | 27 => 24
  | 28 => 25
  | 29 => 26
  | 30 => 27
  | 31 => 28
  | 32 => 29
  | 33 => 30
  | 34 => 31
  | 35 => 32
  | 37 => 33
  | 39 => 34
  | 40 => 35
  | 50 => 36
  | 51 => 37
  | 52 => 38
  | 53 => 39
  | 54 => 40
  | _ => 0
def rfld (j : Nat) : Nat := match j with
  | 1 => 2
  | 2 => 3
  | 3 => 4
  | 4 => 5
  | 5 => 6
  | 6 => 7
  | 7 => 8
  | 8 => 9
  | 9 => 10
  | 10 => 11
  | 11 => 12
  | 12 => 13
  | 13 => 14
  | 14 => 15
  | 15 => 16
  | 16 => 17
  | 17 => 19
  | 18 => 20
  | 19 => 22
  | 20 => 23
  | 21 => 24
  | 22 => 25
  | 23 => 26
  | 24 => 27
  | 25 => 28
  | 26 => 29
  | 27 => 30
  | 28 => 31
  | 29 => 32
  | 30 => 33
  | 31 => 34
  | 32 => 35
  | 33 => 37
  | 34 => 39
  | 35 => 40
  | 36 => 50
  | 37 => 51
  | 38 => 52
  | 39 => 53
  | 40 => 54
  | _ => 0
def rlen (k : Nat) : Nat := match k with
  | 2 => 30
  | 3 => 30
  | 4 => 30
  | 5 => 90
  | 6 => 90
  | 7 => 720
  | 8 => 720
  | 9 => 30
  | 10 => 60
  | 11 => 60
  | 12 => 60
  | 13 => 600
  | 14 => 30
  | 15 => 120
  | 16 => 120
  | 17 => 120
  | 19 => 8
  | 20 => 8
  | 22 => 10
  | 23 => 5
  | 24 => 25
  | 25 => 25
  | 26 => 25
  | 27 => 25
  | 28 => 25
  | 29 => 250
  | 30 => 5
  | 31 => 40
  | 32 => 40
  | 33 => 5
  | 34 => 5
  | 35 => 5
  | 37 => 30
  | 39 => 10
  | 40 => 121
  | 50 => 30
  | 51 => 30
  | 52 => 30
  | 53 => 30
  | 54 => 30
  | _ => 0
def flds (b : Nat) (ρ : RS) : List Value := [.int (ri ρ 0), .int (ri ρ 1), .ref (b + 1), .ref (b + 2), .ref (b + 3), .ref (b + 4), .ref (b + 5), .ref (b + 6), .ref (b + 7), .ref (b + 8), .ref (b + 9), .ref (b + 10), .ref (b + 11), .ref (b + 12), .ref (b + 13), .ref (b + 14), .ref (b + 15), .ref (b + 16), .int (ri ρ 18), .ref (b + 17), .ref (b + 18), .int (ri ρ 21), .ref (b + 19), .ref (b + 20), .ref (b + 21), .ref (b + 22), .ref (b + 23), .ref (b + 24), .ref (b + 25), .ref (b + 26), .ref (b + 27), .ref (b + 28), .ref (b + 29), .ref (b + 30), .ref (b + 31), .ref (b + 32), .int (ri ρ 36), .ref (b + 33), .int (ri ρ 38), .ref (b + 34), .ref (b + 35), .long (rl ρ 41), .long (rl ρ 42), .long (rl ρ 43), .long (rl ρ 44), .long (rl ρ 45), .long (rl ρ 46), .long (rl ρ 47), .long (rl ρ 48), .int (ri ρ 49), .ref (b + 36), .ref (b + 37), .ref (b + 38), .ref (b + 39), .ref (b + 40)]
def rcell (ρ : RS) (j : Nat) : ME := if rfld j = 53 ∨ rfld j = 54 then .inl (1, rlen (rfld j), .inr (.inl (rL ρ (rfld j)))) else .inl (if rfld j = 34 then 3 else 0, rlen (rfld j), .inl (ra ρ (rfld j)))
def ov (b : Nat) (ρ : RS) (μ : Mem) : Mem := (mE μ, mW μ, mN μ, fun a => if a = b then some (.inr (12, flds b ρ)) else if b < a ∧ a ≤ b + 40 then some (rcell ρ (a - b)) else mF μ a)
theorem ov_obj (b : Nat) (ρ : RS) (μ : Mem) : mF (ov b ρ μ) b = some (.inr (12, flds b ρ)) := if_pos rfl
theorem ov_arr (b : Nat) (ρ : RS) (μ : Mem) (j : Nat) (h : 0 < j ∧ j ≤ 40) : mF (ov b ρ μ) (b + j) = some (rcell ρ j) := by
  show (if b + j = b then _ else _) = _
  rw [if_neg (by omega), if_pos (by omega), show b + j - b = j by omega]
theorem ov_ne (b : Nat) (ρ : RS) (μ : Mem) (a : Nat) (h : a < b ∨ b + 40 < a) : mF (ov b ρ μ) a = mF μ a := by
  show (if a = b then _ else _) = _
  rw [if_neg (by omega), if_neg (by omega)]
theorem ov_oC (b : Nat) (ρ : RS) (μ : Mem) : oC (ov b ρ μ) (some b) 12 = some (b, flds b ρ) := by
  unfold oC
  simp only [ov_obj]
  rfl
theorem ov_rc (b : Nat) (ρ : RS) (μ : Mem) : rc (ov b ρ μ) (some b) 12 = some () := by
  unfold rc
  rw [ov_oC]
theorem rfld_inj : ∀ j, j ≤ 40 → 0 < j → roff (rfld j) = j := by decide
theorem rfld_roff {j k : Nat} (hj : 0 < j ∧ j ≤ 40) (h : rfld j = k) : roff k = j := by rw [← h]; exact rfld_inj j hj.2 hj.1
theorem m_ext {μ ν : Mem} (h1 : mE μ = mE ν) (h2 : mW μ = mW ν) (h3 : mN μ = mN ν) (h4 : ∀ a, mF μ a = mF ν a) : μ = ν := by
  obtain ⟨a1, a2, a3, a4⟩ := μ
  obtain ⟨b1, b2, b3, b4⟩ := ν
  have h1 : a1 = b1 := h1
  have h2 : a2 = b2 := h2
  have h3 : a3 = b3 := h3
  have h4 : a4 = b4 := funext h4
  rw [h1, h2, h3, h4]
theorem ov_set (b : Nat) (ρ ρ2 : RS) (μ : Mem) (j : Nat) (hj : 0 < j ∧ j ≤ 40) (hf : flds b ρ2 = flds b ρ) (hc : ∀ i, 0 < i ∧ i ≤ 40 → i ≠ j → rcell ρ2 i = rcell ρ i) : m_set (ov b ρ μ) (b + j) (rcell ρ2 j) = ov b ρ2 μ := by
  refine m_ext rfl rfl rfl (fun a => ?_)
  by_cases ha : a = b + j
  · subst ha
    rw [ov_arr b ρ2 μ j hj]
    exact va_up_self _ _ _
  · refine (va_up_ne (mF (ov b ρ μ)) _ ha).trans ?_
    by_cases h1 : a = b
    · subst h1
      rw [ov_obj, ov_obj, hf]
    · by_cases h2 : b < a ∧ a ≤ b + 40
      · obtain ⟨i, rfl⟩ : ∃ i, a = b + i := ⟨a - b, by omega⟩
        rw [ov_arr b ρ μ i (by omega), ov_arr b ρ2 μ i (by omega), hc i (by omega) (fun e => ha (by rw [e]))]
      · rw [ov_ne _ _ _ _ (by omega), ov_ne _ _ _ _ (by omega)]
theorem ov_put (b : Nat) (ρ ρ2 : RS) (μ : Mem) (hc : ∀ i, rcell ρ2 i = rcell ρ i) : m_set (ov b ρ μ) b (.inr (12, flds b ρ2)) = ov b ρ2 μ := by
  refine m_ext rfl rfl rfl (fun a => ?_)
  by_cases ha : a = b
  · subst ha
    rw [ov_obj]
    exact va_up_self _ _ _
  · refine (va_up_ne (mF (ov b ρ μ)) _ ha).trans ?_
    by_cases h2 : b < a ∧ a ≤ b + 40
    · obtain ⟨i, rfl⟩ : ∃ i, a = b + i := ⟨a - b, by omega⟩
      rw [ov_arr b ρ μ i (by omega), ov_arr b ρ2 μ i (by omega), hc i]
    · rw [ov_ne _ _ _ _ (by omega), ov_ne _ _ _ _ (by omega)]
theorem ov_ov (b : Nat) (ρ ρ2 : RS) (μ : Mem) : ov b ρ2 (ov b ρ μ) = ov b ρ2 μ := by
  refine m_ext rfl rfl rfl (fun a => ?_)
  by_cases h1 : a = b
  · subst h1
    rw [ov_obj, ov_obj]
  · by_cases h2 : b < a ∧ a ≤ b + 40
    · obtain ⟨i, rfl⟩ : ∃ i, a = b + i := ⟨a - b, by omega⟩
      rw [ov_arr _ _ _ i (by omega), ov_arr _ _ _ i (by omega)]
    · rw [ov_ne _ _ _ _ (by omega), ov_ne _ _ _ _ (by omega), ov_ne _ _ _ _ (by omega)]
def oob (i : Int32) (n : Nat) : Prop := i < 0 ∨ n ≤ i.toNatClampNeg
def rgI (ρ : RS) (k n : Nat) (i : Int32) : Option Int32 := if i < 0 ∨ n ≤ i.toNatClampNeg then none else some (ra ρ k i.toNatClampNeg)
def rgL (ρ : RS) (k n : Nat) (i : Int32) : Option Int64 := if i < 0 ∨ n ≤ i.toNatClampNeg then none else some (rL ρ k i.toNatClampNeg)
def rsI (ρ : RS) (k n : Nat) (i x : Int32) : Option RS := if i < 0 ∨ n ≤ i.toNatClampNeg then none else some (rset ρ k (upd (ra ρ k) i.toNatClampNeg x))
def rsL (ρ : RS) (k n : Nat) (i : Int32) (x : Int64) : Option RS := if i < 0 ∨ n ≤ i.toNatClampNeg then none else some (rsetL ρ k (vp_updL (rL ρ k) i.toNatClampNeg x))
theorem rcell_rset {ρ : RS} {k : Nat} {f : Nat → Int32} {j : Nat} (hj : 0 < j ∧ j ≤ 40) (hk : rfld j = k) : ∀ i, 0 < i ∧ i ≤ 40 → i ≠ j → rcell (rset ρ k f) i = rcell ρ i := by
  intro i hi hne
  have h9 : rfld i ≠ k := fun e => hne (by rw [← rfld_roff hi e, ← rfld_roff hj hk])
  unfold rcell
  split
  · rfl
  · show (.inl (_, _, .inl (va_up (ra ρ) k f (rfld i))) : ME) = _
    rw [va_up_ne _ _ h9]
theorem rcell_rsetL {ρ : RS} {k : Nat} {f : Nat → Int64} {j : Nat} (hj : 0 < j ∧ j ≤ 40) (hk : rfld j = k) : ∀ i, 0 < i ∧ i ≤ 40 → i ≠ j → rcell (rsetL ρ k f) i = rcell ρ i := by
  intro i hi hne
  have h9 : rfld i ≠ k := fun e => hne (by rw [← rfld_roff hi e, ← rfld_roff hj hk])
  unfold rcell
  split
  · show (.inl (_, _, .inr (.inl (va_up (rL ρ) k f (rfld i)))) : ME) = _
    rw [va_up_ne _ _ h9]
  · rfl
theorem rcell_I {ρ : RS} {j k : Nat} (hk : rfld j = k) (h : k ≠ 53 ∧ k ≠ 54) : rcell ρ j = .inl (if k = 34 then 3 else 0, rlen k, .inl (ra ρ k)) := by
  subst hk
  unfold rcell
  rw [if_neg (by omega)]
theorem rcell_L {ρ : RS} {j k : Nat} (hk : rfld j = k) (h : k = 53 ∨ k = 54) : rcell ρ j = .inl (1, rlen k, .inr (.inl (rL ρ k))) := by
  subst hk
  unfold rcell
  rw [if_pos h]
theorem ov_aC (b : Nat) (ρ : RS) (μ : Mem) {j t : Nat} {x : vp_A} (hj : 0 < j ∧ j ≤ 40) (hc : rcell ρ j = .inl (t, x)) : aC (ov b ρ μ) (some (b + j)) t = some (b + j, x) := by
  unfold aC
  simp only [ov_arr b ρ μ j hj, hc]
  rfl
theorem ov_aI (b : Nat) (ρ : RS) (μ : Mem) {j k n t : Nat} (hj : 0 < j ∧ j ≤ 40) (hk : rfld j = k) (hn : rlen k = n) (h : k ≠ 53 ∧ k ≠ 54) (ht : (if k = 34 then 3 else 0) = t) (i : Int32) : aI (ov b ρ μ) (some (b + j)) t i = rgI ρ k n i := by
  subst hn
  subst ht
  unfold aI
  rw [ov_aC b ρ μ hj (rcell_I hk h)]
  rfl
theorem ov_aL (b : Nat) (ρ : RS) (μ : Mem) {j k n : Nat} (hj : 0 < j ∧ j ≤ 40) (hk : rfld j = k) (hn : rlen k = n) (h : k = 53 ∨ k = 54) (i : Int32) : aL (ov b ρ μ) (some (b + j)) 1 i = rgL ρ k n i := by
  subst hn
  unfold aL
  rw [ov_aC b ρ μ hj (rcell_L hk h)]
  rfl
theorem ov_sI (b : Nat) (ρ : RS) (μ : Mem) {j k n t : Nat} (hj : 0 < j ∧ j ≤ 40) (hk : rfld j = k) (hn : rlen k = n) (h : k ≠ 53 ∧ k ≠ 54) (ht : (if k = 34 then 3 else 0) = t) (hW : mW μ ≤ b) (i x : Int32) : sI (ov b ρ μ) (some (b + j)) t i x = (rsI ρ k n i x).map (fun z => ov b z μ) := by
  subst hn
  unfold sI rsI
  rw [ov_aC b ρ μ hj ((rcell_I hk h).trans (by rw [ht]))]
  dsimp only
  split
  · rfl
  · rw [if_pos (show mW (ov b ρ μ) ≤ b + j from Nat.le_trans hW (Nat.le_add_right _ _))]
    refine congrArg some ?_
    have e : (.inl (t, rlen k, .inl (upd (ra ρ k) i.toNatClampNeg x)) : ME) = rcell (rset ρ k (upd (ra ρ k) i.toNatClampNeg x)) j := by
      rw [rcell_I hk h, ht]
      show _ = (.inl (t, rlen k, .inl (va_up (ra ρ) k _ k)) : ME)
      rw [va_up_self]
    rw [e]
    exact ov_set b ρ _ μ j hj rfl (rcell_rset hj hk)
theorem ov_sL (b : Nat) (ρ : RS) (μ : Mem) {j k n : Nat} (hj : 0 < j ∧ j ≤ 40) (hk : rfld j = k) (hn : rlen k = n) (h : k = 53 ∨ k = 54) (hW : mW μ ≤ b) (i : Int32) (x : Int64) : sL (ov b ρ μ) (some (b + j)) 1 i x = (rsL ρ k n i x).map (fun z => ov b z μ) := by
  subst hn
  unfold sL rsL
  rw [ov_aC b ρ μ hj (rcell_L hk h)]
  dsimp only
  split
  · rfl
  · rw [if_pos (show mW (ov b ρ μ) ≤ b + j from Nat.le_trans hW (Nat.le_add_right _ _))]
    refine congrArg some ?_
    have e : (.inl (1, rlen k, .inr (.inl (vp_updL (rL ρ k) i.toNatClampNeg x))) : ME) = rcell (rsetL ρ k (vp_updL (rL ρ k) i.toNatClampNeg x)) j := by
      rw [rcell_L hk h]
      show _ = (.inl (1, rlen k, .inr (.inl (va_up (rL ρ) k _ k))) : ME)
      rw [va_up_self]
    rw [e]
    exact ov_set b ρ _ μ j hj rfl (rcell_rsetL hj hk)
theorem rcell_rpI {ρ : RS} {k : Nat} {x : Int32} (i : Nat) : rcell (rpI ρ k x) i = rcell ρ i := rfl
theorem rcell_rpL {ρ : RS} {k : Nat} {x : Int64} (i : Nat) : rcell (rpL ρ k x) i = rcell ρ i := rfl
theorem ov_pI (b : Nat) (ρ : RS) (μ : Mem) {k : Nat} (x : Int32) (hf : (flds b ρ).set k (.int x) = flds b (rpI ρ k x)) (hk : k < 55) (hW : mW μ ≤ b) : pV (ov b ρ μ) (some b) 12 k (vI x) = some (ov b (rpI ρ k x) μ) := by
  unfold pV
  rw [ov_oC]
  dsimp only
  rw [if_pos ⟨show mW (ov b ρ μ) ≤ b from hW, show k < (flds b ρ).length from hk⟩]
  refine congrArg some ?_
  show m_set _ _ (.inr (12, (flds b ρ).set k (.int x))) = _
  rw [hf]
  exact ov_put b ρ _ μ (fun i => rfl)
theorem ov_pL (b : Nat) (ρ : RS) (μ : Mem) {k : Nat} (x : Int64) (hf : (flds b ρ).set k (.long x) = flds b (rpL ρ k x)) (hk : k < 55) (hW : mW μ ≤ b) : pV (ov b ρ μ) (some b) 12 k (vL x) = some (ov b (rpL ρ k x) μ) := by
  unfold pV
  rw [ov_oC]
  dsimp only
  rw [if_pos ⟨show mW (ov b ρ μ) ≤ b from hW, show k < (flds b ρ).length from hk⟩]
  refine congrArg some ?_
  show m_set _ _ (.inr (12, (flds b ρ).set k (.long x))) = _
  rw [hf]
  exact ov_put b ρ _ μ (fun i => rfl)
theorem b1_map {α β γ : Type} {o : Option α} {g : α → β} {F : β → Option γ} : b1 (o.map g) F = b1 o (fun x => F (g x)) := by
  cases o <;> rfl
def c1 {α β : Type} (o : Option α) (F : α → Option β) : Option β := b1 o F
def c2 {α β : Type} (o : Option (α × RS)) (F : α → RS → Option β) : Option β := match o with
  | some (x, ρ) => F x ρ
  | none => none
theorem c2S {α β : Type} {o : Option (α × RS)} {F : α → RS → Option β} {r : β} (h : c2 o F = some r) : ∃ x ρ, o = some (x, ρ) ∧ F x ρ = some r := by
  unfold c2 at h
  split at h
  · exact ⟨_, _, rfl, h⟩
  · cases h
theorem rrM {α : Type} {x r : α} {b : Nat} {ρ ρ' : RS} {μ : Mem} (h : some (x, ρ) = some (r, ρ')) : ov b ρ μ = ov b ρ' μ := by rw [(Prod.mk.inj (Option.some.inj h)).2]
theorem rrI {x r : Int32} {ρ ρ' : RS} (h : some (x, ρ) = some (r, ρ')) : some (vI r) = some (vI x) := by rw [(Prod.mk.inj (Option.some.inj h)).1]
theorem rqI0 {x r : Int32} (h : some x = some r) : some (vI r) = some (vI x) := by rw [Option.some.inj h]
section
variable {X : CX} {cc : ByteArray} {nL pc : Nat} {own : String} {ret : Option FieldType} {lv : List (Nat × TV)} {st : List TV} {cells slots : Nat} {μ : Mem} {β : Type} {res : β} {b : Nat} {ρ : RS}
theorem wm_rlet {e : RS} {F : RS → Option β} (h : b0 e F = some res) (kk : ∀ z, F z = some res → WM X nL pc lv st cells slots (ov b z μ)) : WM X nL pc lv st cells slots (ov b e μ) := kk e h
theorem wm_rget (E : EV X cc nL own ret) {index k : Nat} {v : TV} (hf : FD own index 12 k) (hv : (flds b ρ)[k]? = some (tv v)) (hdg : decode cc pc = .ok (.getfield index, 3)) (kk : WM X nL (pc + 3) lv (v :: st) cells slots (ov b ρ μ)) : WM X nL pc lv (vR (some b) :: st) cells slots (ov b ρ μ) := wm_get0 E hf (ov_obj b ρ μ) hv hdg kk
theorem wm_rpI (E : EV X cc nL own ret) {index k : Nat} {x : Int32} {fin : Bool} (hf : FP own index 12 k .int fin) (hfin : fin = true → X.2.2.2.2.2.2.2.2.2.2.2.1.name = "<init>") (hs : (flds b ρ).set k (.int x) = flds b (rpI ρ k x)) (hk : k < 55) (hW : mW μ ≤ b) (hdg : decode cc pc = .ok (.putfield index, 3)) (kk : WM X nL (pc + 3) lv st cells slots (ov b (rpI ρ k x) μ)) : WM X nL pc lv (vI x :: vR (some b) :: st) cells slots (ov b ρ μ) :=
  wm_put0 E hf hfin rfl rfl (ov_pI b ρ μ x hs hk hW) hdg kk
theorem wm_rpL (E : EV X cc nL own ret) {index k : Nat} {x : Int64} {fin : Bool} (hf : FP own index 12 k .long fin) (hfin : fin = true → X.2.2.2.2.2.2.2.2.2.2.2.1.name = "<init>") (hs : (flds b ρ).set k (.long x) = flds b (rpL ρ k x)) (hk : k < 55) (hW : mW μ ≤ b) (hdg : decode cc pc = .ok (.putfield index, 3)) (kk : WM X nL (pc + 3) lv st cells slots (ov b (rpL ρ k x) μ)) : WM X nL pc lv (vL x :: vR (some b) :: st) cells slots (ov b ρ μ) :=
  wm_put0 E hf hfin rfl rfl (ov_pL b ρ μ x hs hk hW) hdg kk
theorem wm_riald (E : EV X cc nL own ret) {j k n : Nat} {i : Int32} {F : Int32 → Option β} (hj : 0 < j ∧ j ≤ 40) (hk : rfld j = k) (hn : rlen k = n) (hd : k ≠ 53 ∧ k ≠ 54) (ht : (if k = 34 then 3 else 0) = 0) (h : b1 (rgI ρ k n i) F = some res) (hdg : decode cc pc = .ok (.iaload, 1)) (kk : ∀ x, F x = some res → WM X nL (pc + 1) lv (vI x :: st) cells slots (ov b ρ μ)) : WM X nL pc lv (vI i :: vR (some (b + j)) :: st) cells slots (ov b ρ μ) :=
  wm_iald (t := 0) (F := F) E rfl (by rw [ov_aI b ρ μ hj hk hn hd ht]; exact h) hdg kk
theorem wm_rzald (E : EV X cc nL own ret) {j k n : Nat} {i : Int32} {F : Int32 → Option β} (hj : 0 < j ∧ j ≤ 40) (hk : rfld j = k) (hn : rlen k = n) (hd : k ≠ 53 ∧ k ≠ 54) (ht : (if k = 34 then 3 else 0) = 3) (h : b1 (rgI ρ k n i) F = some res) (hdg : decode cc pc = .ok (.baload, 1)) (kk : ∀ x, F x = some res → WM X nL (pc + 1) lv (vI x :: st) cells slots (ov b ρ μ)) : WM X nL pc lv (vI i :: vR (some (b + j)) :: st) cells slots (ov b ρ μ) :=
  wm_zald (t := 3) (F := F) E rfl (by rw [ov_aI b ρ μ hj hk hn hd ht]; exact h) hdg kk
theorem wm_rlald (E : EV X cc nL own ret) {j k n : Nat} {i : Int32} {F : Int64 → Option β} (hj : 0 < j ∧ j ≤ 40) (hk : rfld j = k) (hn : rlen k = n) (hd : k = 53 ∨ k = 54) (h : b1 (rgL ρ k n i) F = some res) (hdg : decode cc pc = .ok (.laload, 1)) (kk : ∀ x, F x = some res → WM X nL (pc + 1) lv (vL x :: st) cells slots (ov b ρ μ)) : WM X nL pc lv (vI i :: vR (some (b + j)) :: st) cells slots (ov b ρ μ) :=
  wm_lald (t := 1) (F := F) E rfl (by rw [ov_aL b ρ μ hj hk hn hd]; exact h) hdg kk
theorem wm_riast (E : EV X cc nL own ret) {j k n : Nat} {i x : Int32} {F : RS → Option β} (hj : 0 < j ∧ j ≤ 40) (hk : rfld j = k) (hn : rlen k = n) (hd : k ≠ 53 ∧ k ≠ 54) (ht : (if k = 34 then 3 else 0) = 0) (hW : mW μ ≤ b) (h : b1 (rsI ρ k n i x) F = some res) (hdg : decode cc pc = .ok (.iastore, 1)) (kk : ∀ z, F z = some res → WM X nL (pc + 1) lv st cells slots (ov b z μ)) : WM X nL pc lv (vI x :: vI i :: vR (some (b + j)) :: st) cells slots (ov b ρ μ) := by
  obtain ⟨z, h1, h2⟩ := b1S h
  exact wm_iast (t := 0) (β := Mem) (res := ov b z μ) (F := some) E rfl (by rw [ov_sI b ρ μ hj hk hn hd ht hW, h1]; rfl) hdg (fun m hm => by cases hm; exact kk z h2)
theorem wm_rzast (E : EV X cc nL own ret) {j k n : Nat} {i x : Int32} {F : RS → Option β} (hj : 0 < j ∧ j ≤ 40) (hk : rfld j = k) (hn : rlen k = n) (hd : k ≠ 53 ∧ k ≠ 54) (ht : (if k = 34 then 3 else 0) = 3) (hW : mW μ ≤ b) (h : b1 (rsI ρ k n i (vp_nar .boolean x)) F = some res) (hdg : decode cc pc = .ok (.bastore, 1)) (kk : ∀ z, F z = some res → WM X nL (pc + 1) lv st cells slots (ov b z μ)) : WM X nL pc lv (vI x :: vI i :: vR (some (b + j)) :: st) cells slots (ov b ρ μ) := by
  obtain ⟨z, h1, h2⟩ := b1S h
  exact wm_zast (t := 3) (β := Mem) (res := ov b z μ) (F := some) E rfl (by rw [ov_sI b ρ μ hj hk hn hd ht hW, h1]; rfl) hdg (fun m hm => by cases hm; exact kk z h2)
theorem wm_rlast (E : EV X cc nL own ret) {j k n : Nat} {i : Int32} {x : Int64} {F : RS → Option β} (hj : 0 < j ∧ j ≤ 40) (hk : rfld j = k) (hn : rlen k = n) (hd : k = 53 ∨ k = 54) (hW : mW μ ≤ b) (h : b1 (rsL ρ k n i x) F = some res) (hdg : decode cc pc = .ok (.lastore, 1)) (kk : ∀ z, F z = some res → WM X nL (pc + 1) lv st cells slots (ov b z μ)) : WM X nL pc lv (vL x :: vI i :: vR (some (b + j)) :: st) cells slots (ov b ρ μ) := by
  obtain ⟨z, h1, h2⟩ := b1S h
  exact wm_last (t := 1) (β := Mem) (res := ov b z μ) (F := some) E rfl (by rw [ov_sL b ρ μ hj hk hn hd hW, h1]; rfl) hdg (fun m hm => by cases hm; exact kk z h2)
end
