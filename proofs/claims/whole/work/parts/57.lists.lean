/-! lists -/
/-- a list at a of n elements e, its backing array at ad (of role: the empty one of the class, or its own) -/
def AL (μ : Mem) (a n : Nat) (e : Nat → Nat) (ad : Nat) : Prop := ∃ mc, mF μ a = some (.inr (0, [.ref ad, .int (i32 n), .int mc])) ∧ ((ad = mD μ ∧ n = 0) ∨ (ad ≠ mD μ ∧ ∃ cap f, mF μ ad = some (.inl (4, cap, .inr (.inr (.inr (.inr f))))) ∧ n ≤ cap ∧ 10 ≤ cap ∧ cap ≤ 33 ∧ ∀ k, k < n → f k = some (e k)))
theorem AL.le {μ : Mem} {a n ad : Nat} {e : Nat → Nat} (h : AL μ a n e ad) : n ≤ 33 := by
  obtain ⟨mc, -, h | ⟨-, cap, f, -, h1, -, h2, -⟩⟩ := h <;> omega
theorem Al_size_eq {μ : Mem} {a n ad : Nat} {e : Nat → Nat} (h : AL μ a n e ad) : S_Al_size (some a) μ = some (i32 n) := by
  obtain ⟨mc, h1, -⟩ := h
  unfold S_Al_size
  rw [gI_at h1 rfl, b1_some]
theorem AL.rc {μ : Mem} {a n ad : Nat} {e : Nat → Nat} (h : AL μ a n e ad) : rc μ (some a) 0 = some () := by
  obtain ⟨mc, h1, -⟩ := h
  exact rc_at h1
theorem Al_get_eq {μ : Mem} {a n ad : Nat} {e : Nat → Nat} (h : AL μ a n e ad) {k : Nat} (hk : k < n) : S_Al_get (some a) (i32 k) μ = some (some (e k)) := by
  have h33 := h.le
  obtain ⟨mc, h1, h2 | ⟨hD, cap, f, h2, h3, -, h4, h5⟩⟩ := h
  · omega
  · unfold S_Al_get S_Ob_checkIndex S_Pr_checkIndex S_Al_elementData
    rw [gI_at h1 rfl, b1_some, if_neg (i32_nn (by omega)), if_pos ((i32_lt (by omega) (by omega)).mpr hk)]
    simp only [b1_some, rc_at h1, gR_at h1 (k := 0) rfl, aR_at h2 (show k < cap by omega) (by omega), h5 k hk]
theorem cK_at {μ : Mem} {a ci : Nat} {fs : List Value} (h : mF μ a = some (.inr (ci, fs))) : cK μ (some a) ci = some () := by
  unfold cK
  rw [if_neg (fun e => by cases e), rc_at h]
theorem CO.cell {μ : Mem} {a n : Nat} {X Y : Nat → Int32} (h : CO μ a n X Y) : ∃ fs, mF μ a = some (.inr (2, fs)) := by
  obtain ⟨ax, ay, fx, fy, h1, -⟩ := h
  exact ⟨_, h1⟩
/-! a place: its cell -/
def PC7 (num kind rem : Int32) (sh sd nm lk : Nat) : List Value := [.int num, .int kind, .int rem, .ref sh, .ref sd, .ref nm, .ref lk]
/-- the last of the first m from k on whose day is not behind the day asked -/
def onIx (D : Nat → Int32) (day : Int32) : Nat → Nat → Option Nat → Option Nat
  | 0, _, cur => cur
  | m + 1, k, cur => onIx D day m (k + 1) (if day < D k then cur else some k)
theorem onIx_lt (D : Nat → Int32) (day : Int32) (m : Nat) : ∀ (k : Nat) (cur : Option Nat) (n : Nat), k + m = n → (∀ j, cur = some j → j < n) → ∀ j, onIx D day m k cur = some j → j < n := by
  induction m with
  | zero => intro k cur n _ hc j hj; exact hc j hj
  | succ m ih =>
    intro k cur n hk hc j hj
    refine ih (k + 1) _ n (by omega) (fun i hi => ?_) j hj
    split at hi
    · exact hc i hi
    · cases hi
      omega
theorem Pl_shape {μ : Mem} {a sh sd nm lk n ad : Nat} {num kind rem : Int32} {co : Nat → Nat} {D : Nat → Int32} (hp : mF μ a = some (.inr (7, PC7 num kind rem sh sd nm lk))) (hl : AL μ sh n co ad) (hd : mF μ sd = some (.inl (0, 3, .inl D))) (h3 : n ≤ 3) (hc : ∀ k, k < n → ∃ fs, mF μ (co k) = some (.inr (2, fs))) (day : Int32) (m : Nat) : ∀ (k : Nat) (cur : Option Nat) (fuel : Nat), k + m = n → m < fuel → B_Pl_shapeOn_4 μ fuel (some a) day (cur.map co) (i32 k) = some ((onIx D day m k cur).map co) := by
  have g3 : gR μ (some a) 7 3 = some (some sh) := gR_at hp rfl
  have g4 : gR μ (some a) 7 4 = some (some sd) := gR_at hp rfl
  induction m with
  | zero =>
    intro k cur fuel hk hf
    cases fuel with
    | zero => omega
    | succ fuel =>
      show b1 (gR μ (some a) 7 3) _ = _
      rw [g3, b1_some, hl.rc, b1_some, Al_size_eq hl, b1_some, if_pos ((i32_le (by omega) (by omega)).mpr (by omega))]
      rfl
  | succ m ih =>
    intro k cur fuel hk hf
    cases fuel with
    | zero => omega
    | succ fuel =>
      obtain ⟨fs, hcs⟩ := hc k (by omega)
      show b1 (gR μ (some a) 7 3) _ = _
      rw [g3, b1_some, hl.rc, b1_some, Al_size_eq hl, b1_some, if_neg (fun e => by have := (i32_le (by omega) (by omega)).mp e; omega), g4, b1_some, aI_at hd (show k < 3 by omega) (by omega), b1_some]
      unfold B_Pl_shapeOn_37
      by_cases hlt : day < D k
      · rw [if_pos hlt, i32_succ]
        have := ih (k + 1) cur fuel (by omega) (by omega)
        show _ = some ((onIx D day m (k + 1) (if day < D k then cur else some k)).map co)
        rw [if_pos hlt]
        exact this
      · rw [if_neg hlt, b1_some, hl.rc, b1_some, Al_get_eq hl (by omega), b1_some, cK_at hcs, b1_some, i32_succ]
        have := ih (k + 1) (some k) fuel (by omega) (by omega)
        show _ = some ((onIx D day m (k + 1) (if day < D k then cur else some k)).map co)
        rw [if_neg hlt]
        exact this
theorem Pl_shapeOn_eq {μ : Mem} {a sh sd nm lk n ad : Nat} {num kind rem : Int32} {co : Nat → Nat} {D : Nat → Int32} (hp : mF μ a = some (.inr (7, PC7 num kind rem sh sd nm lk))) (hl : AL μ sh n co ad) (hd : mF μ sd = some (.inl (0, 3, .inl D))) (h3 : n ≤ 3) (hc : ∀ k, k < n → ∃ fs, mF μ (co k) = some (.inr (2, fs))) (day : Int32) : S_Pl_shapeOn (some a) day μ = some ((onIx D day n 0 none).map co) :=
  Pl_shape hp hl hd h3 hc day n 0 none fu (by omega) (by unfold fu; omega)
/-- the reference's number of the shape of a day -/
def shNo (id : Nat) (o : Option Nat) : Int32 := match o with
  | none => -1
  | some k => i32 (3 * id + k)
theorem i32_3 (s k : Nat) : (3 : Int32) * i32 s + i32 k = i32 (3 * s + k) := by
  rw [show (3 : Int32) = i32 3 from rfl, i32_mul, i32_add]
theorem R_shape {ρ : RS} {id n : Nat} {D : Nat → Int32} (hid : id < 30) (hn : ra ρ 4 id = i32 n) (h3 : n ≤ 3) (hD : ∀ k, k < n → ra ρ 5 (3 * id + k) = D k) (day : Int32) (m : Nat) : ∀ (k : Nat) (cur : Option Nat) (fuel : Nat), k + m = n → m < fuel → RB_M_shapeOf_5 ρ fuel (i32 id) day (shNo id cur) (i32 k) = some (shNo id (onIx D day m k cur)) := by
  have hr := rgI_at (ρ := ρ) (k := 4) (n := 30) (j := id) hid (by omega)
  rw [hn] at hr
  induction m with
  | zero =>
    intro k cur fuel hk hf
    cases fuel with
    | zero => omega
    | succ fuel =>
      show b1 (rgI ρ 4 30 (i32 id)) _ = _
      rw [hr, b1_some, if_pos ((i32_le (by omega) (by omega)).mpr (by omega))]
      rfl
  | succ m ih =>
    intro k cur fuel hk hf
    cases fuel with
    | zero => omega
    | succ fuel =>
      have r1 := rgI_at (ρ := ρ) (k := 5) (n := 90) (j := 3 * id + k) (by omega) (by omega)
      rw [hD k (by omega), ← i32_3] at r1
      show b1 (rgI ρ 4 30 (i32 id)) _ = _
      rw [hr, b1_some, if_neg (fun e => by have := (i32_le (by omega) (by omega)).mp e; omega), r1, b1_some]
      unfold RB_M_shapeOf_38
      by_cases hlt : day < D k
      · rw [if_pos hlt, i32_succ]
        show _ = some (shNo id (onIx D day m (k + 1) (if day < D k then cur else some k)))
        rw [if_pos hlt]
        exact ih (k + 1) cur fuel (by omega) (by omega)
      · rw [if_neg hlt, b0_eq, i32_succ, i32_3]
        show _ = some (shNo id (onIx D day m (k + 1) (if day < D k then cur else some k)))
        rw [if_neg hlt]
        exact ih (k + 1) (some k) fuel (by omega) (by omega)
theorem R_shapeOf_eq {ρ : RS} {id n : Nat} {D : Nat → Int32} (hid : id < 30) (hn : ra ρ 4 id = i32 n) (h3 : n ≤ 3) (hD : ∀ k, k < n → ra ρ 5 (3 * id + k) = D k) (day : Int32) : R_M_shapeOf (i32 id) day ρ = some (shNo id (onIx D day n 0 none)) := by
  unfold R_M_shapeOf
  rw [b0_eq]
  exact R_shape hid hn h3 hD day n 0 none fu (by omega) (by unfold fu; omega)
