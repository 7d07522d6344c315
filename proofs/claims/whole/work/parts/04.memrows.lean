/-! the mirror's operations -/
def b1 {α β : Type} (o : Option α) (F : α → Option β) : Option β := match o with
  | some x => F x
  | none => none
def b2 {α β : Type} (o : Option (α × Mem)) (F : α → Mem → Option β) : Option β := match o with
  | some x => F x.1 x.2
  | none => none
theorem b1S {α β : Type} {o : Option α} {F : α → Option β} {r : β} (h : b1 o F = some r) : ∃ x, o = some x ∧ F x = some r := by
  cases o with
  | none => cases h
  | some x => exact ⟨x, rfl, h⟩
theorem b2S {α β : Type} {o : Option (α × Mem)} {F : α → Mem → Option β} {r : β} (h : b2 o F = some r) : ∃ x μ, o = some (x, μ) ∧ F x μ = some r := by
  cases o with
  | none => cases h
  | some x => exact ⟨x.1, x.2, rfl, h⟩
def oC (μ : Mem) (r : Option Nat) (ci : Nat) : Option (Nat × List Value) := match r with
  | none => none
  | some a => match mF μ a with
    | some (.inr o) => if o.1 = ci then some (a, o.2) else none
    | _ => none
theorem oCS {μ : Mem} {r : Option Nat} {ci a : Nat} {fs : List Value} (h : oC μ r ci = some (a, fs)) : r = some a ∧ mF μ a = some (.inr (ci, fs)) := by
  unfold oC at h
  split at h
  · cases h
  · rename_i b
    split at h
    · rename_i o ho
      split at h
      · rename_i hc
        cases h
        exact ⟨rfl, by rw [ho, ← hc]⟩
      · cases h
    · cases h
def rc (μ : Mem) (r : Option Nat) (ci : Nat) : Option Unit := match oC μ r ci with
  | some _ => some ()
  | none => none
theorem rcS {μ : Mem} {r : Option Nat} {ci : Nat} {u : Unit} (h : rc μ r ci = some u) : ∃ a fs, r = some a ∧ mF μ a = some (.inr (ci, fs)) := by
  unfold rc at h
  split at h
  · rename_i q hq
    obtain ⟨h1, h2⟩ := oCS (a := q.1) (fs := q.2) hq
    exact ⟨_, _, h1, h2⟩
  · cases h
def cK (μ : Mem) (r : Option Nat) (ci : Nat) : Option Unit := if r = none then some () else rc μ r ci
def gI (μ : Mem) (r : Option Nat) (ci k : Nat) : Option Int32 := match oC μ r ci with
  | some q => (match q.2[k]? with
    | some (.int x) => some x
    | _ => none)
  | none => none
def gL (μ : Mem) (r : Option Nat) (ci k : Nat) : Option Int64 := match oC μ r ci with
  | some q => (match q.2[k]? with
    | some (.long x) => some x
    | _ => none)
  | none => none
def gR (μ : Mem) (r : Option Nat) (ci k : Nat) : Option (Option Nat) := match oC μ r ci with
  | some q => (match q.2[k]? with
    | some (.ref x) => some (some x)
    | some .null => some none
    | _ => none)
  | none => none
theorem gIS {μ : Mem} {r : Option Nat} {ci k : Nat} {x : Int32} (h : gI μ r ci k = some x) : ∃ a fs, r = some a ∧ mF μ a = some (.inr (ci, fs)) ∧ fs[k]? = some (.int x) := by
  unfold gI at h
  split at h
  · rename_i q hq
    obtain ⟨h1, h2⟩ := oCS (a := q.1) (fs := q.2) hq
    split at h
    · rename_i y hy
      cases h
      exact ⟨_, _, h1, h2, hy⟩
    · cases h
  · cases h
theorem gLS {μ : Mem} {r : Option Nat} {ci k : Nat} {x : Int64} (h : gL μ r ci k = some x) : ∃ a fs, r = some a ∧ mF μ a = some (.inr (ci, fs)) ∧ fs[k]? = some (.long x) := by
  unfold gL at h
  split at h
  · rename_i q hq
    obtain ⟨h1, h2⟩ := oCS (a := q.1) (fs := q.2) hq
    split at h
    · rename_i y hy
      cases h
      exact ⟨_, _, h1, h2, hy⟩
    · cases h
  · cases h
theorem gRS {μ : Mem} {r : Option Nat} {ci k : Nat} {x : Option Nat} (h : gR μ r ci k = some x) : ∃ a fs, r = some a ∧ mF μ a = some (.inr (ci, fs)) ∧ fs[k]? = some (va_rf x) := by
  unfold gR at h
  split at h
  · rename_i q hq
    obtain ⟨h1, h2⟩ := oCS (a := q.1) (fs := q.2) hq
    split at h
    · rename_i y hy
      cases h
      exact ⟨_, _, h1, h2, hy⟩
    · rename_i hy
      cases h
      exact ⟨_, _, h1, h2, hy⟩
    · cases h
  · cases h
def pV (μ : Mem) (r : Option Nat) (ci k : Nat) (v : TV) : Option Mem := match oC μ r ci with
  | some q => if mW μ ≤ q.1 ∧ k < q.2.length then some (m_set μ q.1 (.inr (ci, q.2.set k (tv v)))) else none
  | none => none
def pZ (μ : Mem) (r : Option Nat) (ci k : Nat) (x : Int32) : Option Mem := if x = 0 ∨ x = 1 then pV μ r ci k (vI x) else none
theorem pVS {μ μ2 : Mem} {r : Option Nat} {ci k : Nat} {v : TV} (h : pV μ r ci k v = some μ2) : ∃ a fs, r = some a ∧ mF μ a = some (.inr (ci, fs)) ∧ mW μ ≤ a ∧ k < fs.length ∧ μ2 = m_set μ a (.inr (ci, fs.set k (tv v))) := by
  unfold pV at h
  split at h
  · rename_i q hq
    obtain ⟨h1, h2⟩ := oCS (a := q.1) (fs := q.2) hq
    split at h
    · rename_i hc
      cases h
      exact ⟨_, _, h1, h2, hc.1, hc.2, rfl⟩
    · cases h
  · cases h
def rS (μ : Mem) (r : Option Nat) : Option Unit := if r = some (mS μ) then some () else none
theorem ifS {α : Type} {c : Prop} [Decidable c] {x : Option α} {y : α} (h : (if c then x else none) = some y) : c ∧ x = some y := by
  split at h
  · rename_i hc
    exact ⟨hc, h⟩
  · cases h
def nO (μ : Mem) (ci : Nat) (fs : List Value) : Option (Option Nat × Mem) := some (some (mN μ), m_push μ (.inr (ci, fs)))
def aC (μ : Mem) (r : Option Nat) (t : Nat) : Option (Nat × vp_A) := match r with
  | none => none
  | some a => match mF μ a with
    | some (.inl o) => if o.1 = t then some (a, o.2) else none
    | _ => none
theorem aCS {μ : Mem} {r : Option Nat} {t a : Nat} {x : vp_A} (h : aC μ r t = some (a, x)) : r = some a ∧ mF μ a = some (.inl (t, x)) := by
  unfold aC at h
  split at h
  · cases h
  · rename_i b
    split at h
    · rename_i o ho
      split at h
      · rename_i hc
        cases h
        exact ⟨rfl, by rw [ho, ← hc]⟩
      · cases h
    · cases h
def aI (μ : Mem) (r : Option Nat) (t : Nat) (i : Int32) : Option Int32 := match aC μ r t with
  | some (_, n, .inl f) => if i < 0 ∨ n ≤ i.toNatClampNeg then none else some (f i.toNatClampNeg)
  | _ => none
def aL (μ : Mem) (r : Option Nat) (t : Nat) (i : Int32) : Option Int64 := match aC μ r t with
  | some (_, n, .inr (.inl f)) => if i < 0 ∨ n ≤ i.toNatClampNeg then none else some (f i.toNatClampNeg)
  | _ => none
def aR (μ : Mem) (r : Option Nat) (t : Nat) (i : Int32) : Option (Option Nat) := match aC μ r t with
  | some (_, n, .inr (.inr (.inr (.inr f)))) => if i < 0 ∨ n ≤ i.toNatClampNeg then none else some (f i.toNatClampNeg)
  | _ => none
theorem aIS {μ : Mem} {r : Option Nat} {t : Nat} {i x : Int32} (h : aI μ r t i = some x) : ∃ a n f, r = some a ∧ mF μ a = some (.inl (t, n, .inl f)) ∧ vp_in i n ∧ x = f i.toNatClampNeg := by
  unfold aI at h
  split at h
  · rename_i a n f hq
    obtain ⟨h1, h2⟩ := aCS hq
    split at h
    · cases h
    · rename_i hi
      cases h
      exact ⟨_, _, _, h1, h2, hi, rfl⟩
  · cases h
theorem aLS {μ : Mem} {r : Option Nat} {t : Nat} {i : Int32} {x : Int64} (h : aL μ r t i = some x) : ∃ a n f, r = some a ∧ mF μ a = some (.inl (t, n, .inr (.inl f))) ∧ vp_in i n ∧ x = f i.toNatClampNeg := by
  unfold aL at h
  split at h
  · rename_i a n f hq
    obtain ⟨h1, h2⟩ := aCS hq
    split at h
    · cases h
    · rename_i hi
      cases h
      exact ⟨_, _, _, h1, h2, hi, rfl⟩
  · cases h
theorem aRS {μ : Mem} {r : Option Nat} {t : Nat} {i : Int32} {x : Option Nat} (h : aR μ r t i = some x) : ∃ a n f, r = some a ∧ mF μ a = some (.inl (t, n, .inr (.inr (.inr (.inr f))))) ∧ vp_in i n ∧ x = f i.toNatClampNeg := by
  unfold aR at h
  split at h
  · rename_i a n f hq
    obtain ⟨h1, h2⟩ := aCS hq
    split at h
    · cases h
    · rename_i hi
      cases h
      exact ⟨_, _, _, h1, h2, hi, rfl⟩
  · cases h
def sI (μ : Mem) (r : Option Nat) (t : Nat) (i x : Int32) : Option Mem := match aC μ r t with
  | some (a, n, .inl f) => if i < 0 ∨ n ≤ i.toNatClampNeg then none else if mW μ ≤ a then some (m_set μ a (.inl (t, n, .inl (upd f i.toNatClampNeg x)))) else none
  | _ => none
def sL (μ : Mem) (r : Option Nat) (t : Nat) (i : Int32) (x : Int64) : Option Mem := match aC μ r t with
  | some (a, n, .inr (.inl f)) => if i < 0 ∨ n ≤ i.toNatClampNeg then none else if mW μ ≤ a then some (m_set μ a (.inl (t, n, .inr (.inl (vp_updL f i.toNatClampNeg x))))) else none
  | _ => none
/-- which kinds of objects may be stored: cs -/
def okS (μ : Mem) (cs : List Nat) (x : Option Nat) : Bool := match x with
  | none => true
  | some b => (match mF μ b with
    | some (.inr o) => cs.contains o.1
    | _ => false)
def sR (μ : Mem) (r : Option Nat) (t : Nat) (cs : List Nat) (i : Int32) (x : Option Nat) : Option Mem := match aC μ r t with
  | some (a, n, .inr (.inr (.inr (.inr f)))) => if i < 0 ∨ n ≤ i.toNatClampNeg then none else if mW μ ≤ a ∧ okS μ cs x = true then some (m_set μ a (.inl (t, n, .inr (.inr (.inr (.inr (va_up f i.toNatClampNeg x))))))) else none
  | _ => none
theorem sIS {μ μ2 : Mem} {r : Option Nat} {t : Nat} {i x : Int32} (h : sI μ r t i x = some μ2) : ∃ a n f, r = some a ∧ mF μ a = some (.inl (t, n, .inl f)) ∧ vp_in i n ∧ mW μ ≤ a ∧ μ2 = m_set μ a (.inl (t, n, .inl (upd f i.toNatClampNeg x))) := by
  unfold sI at h
  split at h
  · rename_i a n f hq
    obtain ⟨h1, h2⟩ := aCS hq
    split at h
    · cases h
    · rename_i hi
      split at h
      · rename_i hw
        cases h
        exact ⟨_, _, _, h1, h2, hi, hw, rfl⟩
      · cases h
  · cases h
theorem sLS {μ μ2 : Mem} {r : Option Nat} {t : Nat} {i : Int32} {x : Int64} (h : sL μ r t i x = some μ2) : ∃ a n f, r = some a ∧ mF μ a = some (.inl (t, n, .inr (.inl f))) ∧ vp_in i n ∧ mW μ ≤ a ∧ μ2 = m_set μ a (.inl (t, n, .inr (.inl (vp_updL f i.toNatClampNeg x)))) := by
  unfold sL at h
  split at h
  · rename_i a n f hq
    obtain ⟨h1, h2⟩ := aCS hq
    split at h
    · cases h
    · rename_i hi
      split at h
      · rename_i hw
        cases h
        exact ⟨_, _, _, h1, h2, hi, hw, rfl⟩
      · cases h
  · cases h
theorem sRS {μ μ2 : Mem} {r : Option Nat} {t : Nat} {cs : List Nat} {i : Int32} {x : Option Nat} (h : sR μ r t cs i x = some μ2) : ∃ a n f, r = some a ∧ mF μ a = some (.inl (t, n, .inr (.inr (.inr (.inr f))))) ∧ vp_in i n ∧ mW μ ≤ a ∧ okS μ cs x = true ∧ μ2 = m_set μ a (.inl (t, n, .inr (.inr (.inr (.inr (va_up f i.toNatClampNeg x)))))) := by
  unfold sR at h
  split at h
  · rename_i a n f hq
    obtain ⟨h1, h2⟩ := aCS hq
    split at h
    · cases h
    · rename_i hi
      split at h
      · rename_i hw
        cases h
        exact ⟨_, _, _, h1, h2, hi, hw.1, hw.2, rfl⟩
      · cases h
  · cases h
def aLen (μ : Mem) (r : Option Nat) : Option Int32 := match r with
  | none => none
  | some a => if a = mD μ then some 0 else match mF μ a with
    | some (.inl o) => if o.1 < aty.length then some (Int32.ofNat o.2.1) else none
    | _ => none
def nI_ (μ : Mem) (t : Nat) (n : Int32) (B : Nat) : Option (Option Nat × Mem) := if n < 0 ∨ B < n.toNatClampNeg then none else some (some (mN μ), m_push μ (.inl (t, n.toNatClampNeg, .inl (fun _ => 0))))
def nL_ (μ : Mem) (t : Nat) (n : Int32) (B : Nat) : Option (Option Nat × Mem) := if n < 0 ∨ B < n.toNatClampNeg then none else some (some (mN μ), m_push μ (.inl (t, n.toNatClampNeg, .inr (.inl (fun _ => 0)))))
def nR_ (μ : Mem) (t : Nat) (n : Int32) (B : Nat) : Option (Option Nat × Mem) := if n < 0 ∨ B < n.toNatClampNeg then none else some (some (mN μ), m_push μ (.inl (t, n.toNatClampNeg, .inr (.inr (.inr (.inr (fun _ => none)))))))
/-! facts on the tables that the rows ask for -/
def FD (own : String) (index ci k : Nat) : Prop := ∃ (C : String) (T : u_T) (N : Nat) (ref : String), vwCl[ci]? = some (C, T, N) ∧ k < N ∧ (∀ w ∈ u_ws C T N, w ∈ GW) ∧ (ref = (T k).1 ∨ Cond.sameField ref (T k).1 (T k).2.1 (T k).2.2.1 ∈ GW) ∧ (Cond.fieldLink own index ref (T k).2.1 (T k).2.2.1 ∈ GW ∨ ∃ host, Cond.fieldLinkNest own index ref (T k).2.1 (T k).2.2.1 host ∈ NW)
/-- for a store: the field's type; fin: it is final (then its maker alone writes it) -/
def FP (own : String) (index ci k : Nat) (ty : FieldType) (fin : Bool) : Prop := ∃ (C : String) (T : u_T) (N : Nat) (ref : String) (ty0 : Nat → FieldType), vwCl[ci]? = some (C, T, N) ∧ k < N ∧ (∀ w ∈ u_ws C T N, w ∈ GW) ∧ (ref = (T k).1 ∨ Cond.sameField ref (T k).1 (T k).2.1 (T k).2.2.1 ∈ GW) ∧
  (∀ j, j < N → parseFieldDescriptor (T j).2.2.1 = some (ty0 j)) ∧ (∀ a, a < N → ∀ b, b < N → a ≠ b → (T a).2.1 ≠ (T b).2.1) ∧ ty0 k = ty ∧ (T k).2.2.2 = fin ∧ ((Cond.fieldLink own index ref (T k).2.1 (T k).2.2.1 ∈ GW ∧ (fin = true → (T k).1 = own)) ∨ (fin = false ∧ ∃ host, Cond.fieldLinkNest own index ref (T k).2.1 (T k).2.2.1 host ∈ NW))
def ND (own : String) (index ci N : Nat) (fs : List Value) : Prop := ∃ (C : String) (T : u_T) (ty : Nat → FieldType), vwCl[ci]? = some (C, T, N) ∧ (∀ w ∈ u_ws C T N, w ∈ GW) ∧ (∀ j, j < N → parseFieldDescriptor (T j).2.2.1 = some (ty j)) ∧ Cond.classLink own index C ∈ GW ∧ Cond.instantiable C N ∈ GW ∧ Cond.initialized C ∈ GW ∧ ∀ j, j < N → defaultValue (ty j) = vp_V fs j
/-- an object of kind ci may lie in an array over C -/
def AS (C : String) (ci : Nat) : Prop := ∃ (D : String) (T : u_T) (N : Nat), vwCl[ci]? = some (D, T, N) ∧ (D = C ∨ Cond.castable D C ∈ NW)
section
variable {X : CX} {cc : ByteArray} {nL pc : Nat} {own : String} {ret : Option FieldType} {lv : List (Nat × TV)} {st : List TV} {cells slots : Nat} {μ : Mem} {β : Type} {res : β}
theorem wm_get0 (E : EV X cc nL own ret) {index ci k a : Nat} {fs : List Value} {v : TV} (hf : FD own index ci k) (hc : mF μ a = some (.inr (ci, fs))) (hv : fs[k]? = some (tv v)) (hdg : decode cc pc = .ok (.getfield index, 3)) (kk : WM X nL (pc + 3) lv (v :: st) cells slots μ) : WM X nL pc lv (vR (some a) :: st) cells slots μ := by
  obtain ⟨G, ed, lo, p, l, e, R, s, m, args, below, meth, c, Q⟩ := X
  obtain ⟨hx, hb, hml, hown, hts, hN, hK, hO, hlo, hlk, hret⟩ := E
  obtain ⟨C, T, N, ref, hcl, hk, hin, hsm, hlk⟩ := hf
  intro H locs ls hw hl
  have hP : va_P G.1 vwCl [(a, .inr (ci, fs))] H := fun j q hj => by
    cases j with
    | zero => cases hj; exact hw.1.2 a _ hc
    | succ j => simp at hj
  have hsame : ∀ x, s.fieldFound? (T k).1 (T k).2.1 (T k).2.2.1 = some x → s.fieldFound? ref (T k).2.1 (T k).2.2.1 = some x := by
    rcases hsm with rfl | hsm
    · exact fun _ h => h
    · exact u_same (hts _ hsm)
  rcases hlk with hlk | ⟨host, hlk⟩
  · exact va_get hx hb hts hin hown hK.va hP 0 rfl hcl k hk (hts _ hlk) hsame hv hdg (kk H locs ls hw hl)
  · exact va_getN hx hb hts hin hown hK.va hP 0 rfl hcl k hk (va_Nw.use rfl (hN _ hlk)) hsame hv hdg (kk H locs ls hw hl)
theorem wm_gI (E : EV X cc nL own ret) {index ci k : Nat} {r : Option Nat} {F : Int32 → Option β} (hf : FD own index ci k) (h : b1 (gI μ r ci k) F = some res) (hdg : decode cc pc = .ok (.getfield index, 3)) (kk : ∀ x, F x = some res → WM X nL (pc + 3) lv (vI x :: st) cells slots μ) : WM X nL pc lv (vR r :: st) cells slots μ := by
  obtain ⟨x, h1, h2⟩ := b1S h
  obtain ⟨a, fs, rfl, hc, hv⟩ := gIS h1
  exact wm_get0 (v := vI x) E hf hc hv hdg (kk x h2)
theorem wm_gL (E : EV X cc nL own ret) {index ci k : Nat} {r : Option Nat} {F : Int64 → Option β} (hf : FD own index ci k) (h : b1 (gL μ r ci k) F = some res) (hdg : decode cc pc = .ok (.getfield index, 3)) (kk : ∀ x, F x = some res → WM X nL (pc + 3) lv (vL x :: st) cells slots μ) : WM X nL pc lv (vR r :: st) cells slots μ := by
  obtain ⟨x, h1, h2⟩ := b1S h
  obtain ⟨a, fs, rfl, hc, hv⟩ := gLS h1
  exact wm_get0 (v := vL x) E hf hc hv hdg (kk x h2)
theorem wm_gR (E : EV X cc nL own ret) {index ci k : Nat} {r : Option Nat} {F : Option Nat → Option β} (hf : FD own index ci k) (h : b1 (gR μ r ci k) F = some res) (hdg : decode cc pc = .ok (.getfield index, 3)) (kk : ∀ x, F x = some res → WM X nL (pc + 3) lv (vR x :: st) cells slots μ) : WM X nL pc lv (vR r :: st) cells slots μ := by
  obtain ⟨x, h1, h2⟩ := b1S h
  obtain ⟨a, fs, rfl, hc, hv⟩ := gRS h1
  exact wm_get0 (v := vR x) E hf hc hv hdg (kk x h2)
theorem wm_put0 (E : EV X cc nL own ret) {index ci k : Nat} {r : Option Nat} {v : TV} {ty : FieldType} {fin : Bool} {μ2 : Mem} (hf : FP own index ci k ty fin) (hfin : fin = true → X.2.2.2.2.2.2.2.2.2.2.2.1.name = "<init>") (hn : narrow ty (tv v) = tv v) (hfit : fits ty (tv v) = true) (h1 : pV μ r ci k v = some μ2) (hdg : decode cc pc = .ok (.putfield index, 3)) (kk : WM X nL (pc + 3) lv st cells slots μ2) : WM X nL pc lv (v :: vR r :: st) cells slots μ := by
  obtain ⟨a, fs, rfl, hc, ha, hl0, rfl⟩ := pVS h1
  obtain ⟨G, ed, lo, p, l, e, R, s, m, args, below, meth, c, Q⟩ := X
  obtain ⟨hx, hb, hml, hown, hts, hN, hK, hO, hlo, hlk, hret⟩ := E
  obtain ⟨C, T, N, ref, ty0, hcl, hk, hin, hsm, hty, hnm, htk, hfi, hlk⟩ := hf
  intro H locs ls hw hl
  obtain ⟨hM, hE, hW, hS⟩ := hw
  have hsame : ∀ x, s.fieldFound? (T k).1 (T k).2.1 (T k).2.2.1 = some x → s.fieldFound? ref (T k).2.1 (T k).2.2.1 = some x := by
    rcases hsm with rfl | hsm
    · exact fun _ h => h
    · exact u_same (hts _ hsm)
  have hd : parseFieldDescriptor (T k).2.2.1 = some ty := by rw [← htk]; exact hty k hk
  have hap := va_apart (own := own) hts hin ty0 hty hnm hK.va hcl
  obtain ⟨r, h1, cell, q1, q2, q3, q4⟩ := hM.2 a _ hc
  have hr : r = (C, T, N) := Option.some.inj (h1.symm.trans hcl)
  subst hr
  obtain ⟨hSl, hfc, kC, hkC, hkind⟩ := hK.1 ci _ hcl
  obtain ⟨cf, kf, fi, f, hi, hsl⟩ := hSl k hk
  have hlay := hts _ (hin _ (u_in_lay hk))
  unfold u_lay at hlay
  have hst := (u_facts hfc hkC (u_lays hts hin hk) hi).1
  have fin9 : ∀ H', H'[a]? = some (cell.setSlot f.slot (tv v)) → H'.size = H.size → (∀ q, q ≠ a → H'[q]? = H[q]?) → W p l e R s m args below meth c H' (locs ++ [⟨a, f.slot⟩]) cells slots Q (F0 m (pc + 3) ls (st.map tv)) := by
    intro H' e1 e2 e3
    rw [hsl] at e1 ⊢
    exact kk H' _ ls ⟨hM.set (e := .inr (ci, fs.set k (tv v))) ⟨_, hcl, t_OB.to (V := updV (vp_V fs) k (tv v)) ⟨_, e1, q2, q3, t_set q4 hap hk (tv v)⟩ (fun j _ => vp_updV_set hl0 (tv v) j)⟩ e2 e3, hE, hW, hS.put e2 e3 (by rw [← hW]; exact ha)⟩ hl
  rcases hlk with ⟨hlk, hdecl⟩ | ⟨hff, host, hlk⟩
  · cases fin with
    | false =>
      rw [if_neg (by rw [hfi]; decide)] at hlay
      have h6 := u_store hfc hkC hkind hlay hi hd hn hfit
      exact W.putK hx hb (f := f) ⟨hown, hts _ hlk, ⟨_, _, _, hsame _ hi⟩, hst⟩ (by rw [q2]; exact h6) q1 q3 (by rw [hsl]; exact k2_hasslot (q4 k hk)) rfl rfl hdg fin9
    | true =>
      rw [if_pos hfi] at hlay
      have hcf : m.cls = cf := by
        obtain ⟨_, _, c', _, _, _, -, -, hf', -, -, -, hown2, -⟩ := Cond.laysFinal_spec hlay
        have e1 : c' = cf := by have := hi.symm.trans hf'; simp at this; exact this.1.symm
        rw [hdecl rfl] at hown2
        rw [← e1]; exact Option.some.inj (hown.symm.trans hown2)
      have h6 := u_fits hfc hkC hkind (Or.inr hlay) hi hd hn hfit
      exact W.putFinK hx hb hown (hts _ hlk) (hsame _ hi) hst hcf (hfin rfl) (by rw [q2]; exact h6) q1 q3 (by rw [hsl]; exact k2_hasslot (q4 k hk)) rfl rfl hdg fin9
  · subst hff
    rw [if_neg (by rw [hfi]; decide)] at hlay
    have h6 := u_store hfc hkC hkind hlay hi hd hn hfit
    exact va_WputK hx hb hown (va_Nw.use rfl (hN _ hlk)) (hsame _ hi) hst (by rw [q2]; exact h6) q1 q3 (by rw [hsl]; exact k2_hasslot (q4 k hk)) rfl rfl hdg fin9
end
