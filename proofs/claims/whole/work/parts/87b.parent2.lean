/-! parent -/
theorem lst_fn {F T F' T' : Nat → Int32} (day : Int32) (m : Nat) : ∀ (k : Nat) (cur : Option Nat), (∀ j, k ≤ j → j < k + m → F' j = F j ∧ T' j = T j) → lstIx F' T' day m k cur = lstIx F T day m k cur := by
  induction m with
  | zero => intro k cur h; rfl
  | succ m ih =>
    intro k cur h
    show lstIx F' T' day m (k + 1) (if F' k ≤ day ∧ day ≤ T' k then some k else cur) = lstIx F T day m (k + 1) (if F k ≤ day ∧ day ≤ T k then some k else cur)
    rw [(h k (by omega) (by omega)).1, (h k (by omega) (by omega)).2]
    exact ih (k + 1) _ (fun j h1 h2 => h j (by omega) (by omega))
def upG (n : Nat) (P F T : Nat → Int32) (day : Int32) : Option Nat := (lstIx F T day n 0 none).map (fun k => (P k).toNatClampNeg)
theorem upG_D (ρ : RS) (day : Int32) (i : Nat) : upD ρ day i = upG (nSp ρ i) (fun k => ra ρ 15 (4 * i + k)) (fun k => ra ρ 16 (4 * i + k)) (fun k => ra ρ 17 (4 * i + k)) day := rfl
theorem upG_eq {n : Nat} {P F T P' F' T' : Nat → Int32} (h : ∀ k, k < n → P' k = P k ∧ F' k = F k ∧ T' k = T k) (day : Int32) : upG n P' F' T' day = upG n P F T day := by
  unfold upG
  rw [lst_fn (F := F) (T := T) day n 0 none (fun j _ hj => ⟨(h j (by omega)).2.1, (h j (by omega)).2.2⟩)]
  cases hl : lstIx F T day n 0 none with
  | none => rw [Option.map_none, Option.map_none]
  | some j =>
    rcases lst_some _ _ _ _ _ _ _ hl with q | q
    · rw [Option.map_some, Option.map_some, (h j (by omega)).1]
    · cases q
theorem upG_at {n : Nat} {P F T : Nat → Int32} (hdis : ∀ j k, j < n → k < n → F j ≤ T k → F k ≤ T j → j = k) (day : Int32) {j : Nat} (h1 : j < n) (h2 : F j ≤ day) (h3 : day ≤ T j) : upG n P F T day = some (P j).toNatClampNeg := by
  unfold upG
  cases hl : lstIx F T day n 0 none with
  | none => exact absurd hl (lst_ex _ _ _ _ _ _ (.inr ⟨j, by omega, by omega, h2, h3⟩))
  | some l =>
    rcases lst_some _ _ _ _ _ _ _ hl with q | q
    · have : l = j := hdis l j (by omega) h1 (Int32.le_trans q.2.2.1 h3) (Int32.le_trans h2 q.2.2.2)
      rw [this, Option.map_some]
    · cases q
theorem upG_out {n : Nat} {P F T : Nat → Int32} (day : Int32) (h : ¬ (F n ≤ day ∧ day ≤ T n)) : upG (n + 1) P F T day = upG n P F T day := by
  unfold upG
  have : ∀ m k cur, k + m = n → lstIx F T day (m + 1) k cur = lstIx F T day m k cur := by
    intro m
    induction m with
    | zero =>
      intro k cur hk
      show (if F k ≤ day ∧ day ≤ T k then some k else cur) = cur
      rw [if_neg (by rw [show k = n by omega]; exact h)]
    | succ m ih =>
      intro k cur hk
      exact ih (k + 1) _ (by omega)
  rw [this n 0 none (by omega)]
theorem upD_eq {ρ ρ' : RS} {x : Nat} (h14 : ra ρ' 14 x = ra ρ 14 x) (h : ∀ k, k < nSp ρ x → ra ρ' 15 (4 * x + k) = ra ρ 15 (4 * x + k) ∧ ra ρ' 16 (4 * x + k) = ra ρ 16 (4 * x + k) ∧ ra ρ' 17 (4 * x + k) = ra ρ 17 (4 * x + k)) (day : Int32) : upD ρ' day x = upD ρ day x := by
  have hn : nSp ρ' x = nSp ρ x := by unfold nSp; rw [h14]
  rw [upG_D, upG_D, hn]
  exact upG_eq h day
theorem R_p45 {ρ0 : RS} {i area n : Nat} {f t : Int32} (hi : i < 30) (hn : n ≤ 4) (h0 : ri ρ0 0 = 0) (h14 : ra ρ0 14 i = i32 n) (m : Nat) : ∀ (k fuel : Nat) (b : Bool), k + m = n → m < fuel → ∃ b' : Bool, RB_M_parent_45 fuel (i32 i) (i32 area) f t (i32 k) (if b then rpI ρ0 0 2 else ρ0) = (if b' then some ((), rpI ρ0 0 2) else (if i32 n = 4 then RB_M_parent_126 (i32 i) (i32 area) f t ρ0 else b1 (R_M_isAbove (i32 i) (i32 area) f ρ0) (fun x120 => if x120 = 0 then RB_M_parent_131 (i32 i) (i32 area) f t ρ0 else RB_M_parent_126 (i32 i) (i32 area) f t ρ0))) ∧ (b' = true ↔ b = true ∨ ∃ j, k ≤ j ∧ j < n ∧ ra ρ0 16 (4 * i + j) ≤ t ∧ f ≤ ra ρ0 17 (4 * i + j)) := by
  have a14 : ∀ b : Bool, rgI (if b then rpI ρ0 0 2 else ρ0) 14 30 (i32 i) = some (i32 n) := fun b => by
    rw [rgI_at hi (by decide)]
    cases b <;> exact congrArg some h14
  have a16 : ∀ (b : Bool) j, j < 4 → rgI (if b then rpI ρ0 0 2 else ρ0) 16 120 (i32 (4 * i + j)) = some (ra ρ0 16 (4 * i + j)) := fun b j hj => by
    rw [rgI_at (by omega) (by decide)]
    cases b <;> rfl
  have a17 : ∀ (b : Bool) j, j < 4 → rgI (if b then rpI ρ0 0 2 else ρ0) 17 120 (i32 (4 * i + j)) = some (ra ρ0 17 (4 * i + j)) := fun b j hj => by
    rw [rgI_at (by omega) (by decide)]
    cases b <;> rfl
  have a3 : ∀ b : Bool, rpI (if b then rpI ρ0 0 2 else ρ0) 0 2 = (if true then rpI ρ0 0 2 else ρ0) := fun b => by
    cases b
    · rfl
    · exact rpIx _ _ _ _
  induction m with
  | zero =>
    intro k fuel b hk hf
    cases fuel with
    | zero => omega
    | succ fuel =>
      refine ⟨b, ?_, ⟨fun h => .inl h, fun h => h.elim id (fun ⟨j, h1, h2, _⟩ => by omega)⟩⟩
      show b1 (rgI (if b then rpI ρ0 0 2 else ρ0) 14 30 (i32 i)) (fun x52 => if x52 ≤ i32 k then (if ri (if b then rpI ρ0 0 2 else ρ0) 0 ≤ 0 then b1 (rgI (if b then rpI ρ0 0 2 else ρ0) 14 30 (i32 i)) (fun x111 => if x111 = 4 then RB_M_parent_126 (i32 i) (i32 area) f t (if b then rpI ρ0 0 2 else ρ0) else b1 (R_M_isAbove (i32 i) (i32 area) f (if b then rpI ρ0 0 2 else ρ0)) (fun x120 => if x120 = 0 then RB_M_parent_131 (i32 i) (i32 area) f t (if b then rpI ρ0 0 2 else ρ0) else RB_M_parent_126 (i32 i) (i32 area) f t (if b then rpI ρ0 0 2 else ρ0))) else some ((), (if b then rpI ρ0 0 2 else ρ0))) else _) = _
      rw [a14, b1_some, if_pos ((i32_le (by omega) (by omega)).mpr (by omega)), b1_some]
      cases b with
      | true => rw [if_neg (show ¬ ri (if true = true then rpI ρ0 0 2 else ρ0) 0 ≤ 0 from by show ¬ (2 : Int32) ≤ 0; decide)]; rfl
      | false => rw [if_pos (show ri (if false = true then rpI ρ0 0 2 else ρ0) 0 ≤ 0 from by show ri ρ0 0 ≤ 0; rw [h0]; decide)]; rfl
  | succ m ih =>
    intro k fuel b hk hf
    cases fuel with
    | zero => omega
    | succ fuel =>
      have expand : RB_M_parent_45 (fuel + 1) (i32 i) (i32 area) f t (i32 k) (if b then rpI ρ0 0 2 else ρ0) = if t < ra ρ0 16 (4 * i + k) then RB_M_parent_45 fuel (i32 i) (i32 area) f t (i32 (k + 1)) (if b then rpI ρ0 0 2 else ρ0) else if ra ρ0 17 (4 * i + k) < f then RB_M_parent_45 fuel (i32 i) (i32 area) f t (i32 (k + 1)) (if b then rpI ρ0 0 2 else ρ0) else RB_M_parent_45 fuel (i32 i) (i32 area) f t (i32 (k + 1)) (if true then rpI ρ0 0 2 else ρ0) := by
        show b1 (rgI (if b then rpI ρ0 0 2 else ρ0) 14 30 (i32 i)) (fun x52 => if x52 ≤ i32 k then _ else b1 (rgI (if b then rpI ρ0 0 2 else ρ0) 16 120 ((4 * i32 i) + i32 k)) (fun x66 => if t < x66 then RB_M_parent_45 fuel (i32 i) (i32 area) f t (i32 k + 1) (if b then rpI ρ0 0 2 else ρ0) else b1 (rgI (if b then rpI ρ0 0 2 else ρ0) 17 120 ((4 * i32 i) + i32 k)) (fun x83 => if x83 < f then RB_M_parent_45 fuel (i32 i) (i32 area) f t (i32 k + 1) (if b then rpI ρ0 0 2 else ρ0) else b0 (rpI (if b then rpI ρ0 0 2 else ρ0) 0 2) (fun ρ89 => RB_M_parent_45 fuel (i32 i) (i32 area) f t (i32 k + 1) ρ89)))) = _
        rw [a14, b1_some, if_neg (fun q => by have := (i32_le (by omega) (by omega)).mp q; omega), i32_4, a16 b k (by omega), b1_some, a17 b k (by omega), b1_some, i32_succ, b0_eq, a3]
      rw [expand]
      have same : ¬ (ra ρ0 16 (4 * i + k) ≤ t ∧ f ≤ ra ρ0 17 (4 * i + k)) → ∃ b' : Bool, RB_M_parent_45 fuel (i32 i) (i32 area) f t (i32 (k + 1)) (if b then rpI ρ0 0 2 else ρ0) = (if b' then some ((), rpI ρ0 0 2) else (if i32 n = 4 then RB_M_parent_126 (i32 i) (i32 area) f t ρ0 else b1 (R_M_isAbove (i32 i) (i32 area) f ρ0) (fun x120 => if x120 = 0 then RB_M_parent_131 (i32 i) (i32 area) f t ρ0 else RB_M_parent_126 (i32 i) (i32 area) f t ρ0))) ∧ (b' = true ↔ b = true ∨ ∃ j, k ≤ j ∧ j < n ∧ ra ρ0 16 (4 * i + j) ≤ t ∧ f ≤ ra ρ0 17 (4 * i + j)) := by
        intro hno
        obtain ⟨b', p1, p2⟩ := ih (k + 1) fuel b (by omega) (by omega)
        refine ⟨b', p1, p2.trans ⟨fun h => h.imp id (fun ⟨j, h1, h2⟩ => ⟨j, by omega, h2⟩), fun h => h.imp id (fun ⟨j, h1, h2⟩ => ?_)⟩⟩
        by_cases hjk : j = k
        · subst hjk; exact absurd h2.2 hno
        · exact ⟨j, by omega, h2⟩
      by_cases c1 : t < ra ρ0 16 (4 * i + k)
      · rw [if_pos c1]
        exact same (fun q => (i32_nlt.mpr q.1) c1)
      · rw [if_neg c1]
        by_cases c2 : ra ρ0 17 (4 * i + k) < f
        · rw [if_pos c2]
          exact same (fun q => (i32_nlt.mpr q.2) c2)
        · rw [if_neg c2]
          obtain ⟨b', p1, p2⟩ := ih (k + 1) fuel true (by omega) (by omega)
          exact ⟨b', p1, ⟨fun _ => .inr ⟨k, Nat.le_refl _, by omega, i32_nlt.mp c1, i32_nlt.mp c2⟩, fun _ => p2.mpr (.inl rfl)⟩⟩
theorem Li_init_eq {μ : Mem} {A ab : Nat} (h : mF μ A = some (.inr (5, [.null, .int 0, .int 0]))) (l : mW μ ≤ A) (x y : Int32) : S_Li_init (some A) (some ab) x y μ = some ((), m_set μ A (.inr (5, [.ref ab, .int x, .int y]))) := by
  unfold S_Li_init
  have p1 : pV μ (some A) 5 0 (vR (some ab)) = some (m_set μ A (.inr (5, [.ref ab, .int 0, .int 0]))) := pV_at _ h l (show 0 < 3 by decide)
  have p2 : pV (m_set μ A (.inr (5, [.ref ab, .int 0, .int 0]))) (some A) 5 1 (vI x) = some (m_set (m_set μ A (.inr (5, [.ref ab, .int 0, .int 0]))) A (.inr (5, [.ref ab, .int x, .int 0]))) := pV_at _ (set_at _ _ _) l (show 1 < 3 by decide)
  rw [set_set] at p2
  have p3 : pV (m_set μ A (.inr (5, [.ref ab, .int x, .int 0]))) (some A) 5 2 (vI y) = some (m_set (m_set μ A (.inr (5, [.ref ab, .int x, .int 0]))) A (.inr (5, [.ref ab, .int x, .int y]))) := pV_at _ (set_at _ _ _) l (show 2 < 3 by decide)
  rw [set_set] at p3
  rw [rc_at h, b1_some, p1, b1_some, p2, b1_some, p3, b1_some]
