/-! a copy of an int array by clone; a cast to int[]; int[11][11]; the one text -/
def clI (μ : Mem) (r : Option Nat) (t B : Nat) : Option (Option Nat × Mem) := match aC μ r t with
  | some (_, n, .inl f) => if B < n then none else some (some (mN μ), m_push μ (.inl (t, n, .inl f)))
  | _ => none
theorem clIS {μ μ2 : Mem} {r x : Option Nat} {t B : Nat} (h : clI μ r t B = some (x, μ2)) : ∃ a n f, r = some a ∧ mF μ a = some (.inl (t, n, .inl f)) ∧ n ≤ B ∧ x = some (mN μ) ∧ μ2 = m_push μ (.inl (t, n, .inl f)) := by
  unfold clI at h
  split at h
  · rename_i a n f hq
    obtain ⟨h1, h2⟩ := aCS hq
    split at h
    · cases h
    · rename_i hn
      cases h
      exact ⟨a, n, f, h1, h2, Nat.not_lt.mp hn, rfl, rfl⟩
  · cases h
def cKA (μ : Mem) (r : Option Nat) (t : Nat) : Option Unit := match aC μ r t with
  | some _ => some ()
  | none => none
def oCloN : MethodName := ⟨"java/lang/Object", "clone", "()Ljava/lang/Object;"⟩
def iCloN : MethodName := ⟨"[I", "clone", "()Ljava/lang/Object;"⟩
def KL (own : String) (index : Nat) : Prop := Cond.methodLink own index iCloN ∈ GW ∧ Cond.sameMethod "[I" "java/lang/Object" "clone" "()Ljava/lang/Object;" ∈ GW ∧ Cond.native oCloN ∈ GW ∧ Cond.instanceMethod oCloN ∈ GW ∧ Cond.selects "[I" iCloN oCloN ∈ GW ∧ Cond.castable "[I" "java/lang/Cloneable" ∈ NW
/-- the rows of a table of n rows of k zeros -/
def rows (μ : Mem) (t : Nat) (k : Nat) : Nat → Mem
  | 0 => μ
  | n + 1 => m_push (rows μ t k n) (.inl (t, k, .inl (fun _ => 0)))
def nT_ (μ : Mem) (t t0 n k : Nat) : Option (Option Nat × Mem) := some (some (mN μ), rows (m_push μ (.inl (t, n, .inr (.inr (.inr (.inr (fun i => if i < n then some (mN μ + 1 + i) else none))))))) t0 k n)
theorem rows_N (μ : Mem) (t k n : Nat) : mN (rows μ t k n) = mN μ + n := by
  induction n with
  | zero => rfl
  | succ n ih => show mN (rows μ t k n) + 1 = _; rw [ih]; omega
theorem rows_E (μ : Mem) (t k n : Nat) : mE (rows μ t k n) = mE μ := by
  induction n with
  | zero => rfl
  | succ n ih => exact ih
theorem rows_W (μ : Mem) (t k n : Nat) : mW (rows μ t k n) = mW μ := by
  induction n with
  | zero => rfl
  | succ n ih => exact ih
theorem rows_F (μ : Mem) (t k n : Nat) (a : Nat) (e : ME) (h : mF (rows μ t k n) a = some e) : (mF μ a = some e) ∨ ∃ j, j < n ∧ a = mN μ + j ∧ e = .inl (t, k, .inl (fun _ => 0)) := by
  induction n with
  | zero => exact Or.inl h
  | succ n ih =>
    by_cases ha : a = mN (rows μ t k n)
    · subst ha
      have : (.inl (t, k, .inl (fun _ => 0)) : ME) = e := Option.some.inj ((va_up_self (mF (rows μ t k n)) _ _).symm.trans h)
      exact Or.inr ⟨n, Nat.lt_succ_self n, rows_N μ t k n, this.symm⟩
    · rcases ih ((va_up_ne (mF (rows μ t k n)) _ ha).symm.trans h) with h | ⟨j, h1, h2⟩
      · exact Or.inl h
      · exact Or.inr ⟨j, Nat.lt_succ_of_lt h1, h2⟩
theorem outer_eq (c : ClassId) (N h0 : Nat) (i : Nat) : Jvm.Free.Multi.outerC c N h0 i = arrV c N (fun j => if j < i then .ref (h0 + 1 + j) else .null) := by
  induction i with
  | zero =>
    have e : (fun j : Nat => if j < 0 then Value.ref (h0 + 1 + j) else .null) = fun _ => .null := by
      funext j
      simp
    rw [e, ← arrV_new]
    rfl
  | succ i ih =>
    show (Jvm.Free.Multi.outerC c N h0 i).setSlot i (.ref (h0 + 1 + i)) = _
    rw [ih, arrV_store]
    congr 1
    funext q
    by_cases hq : q = i
    · subst hq
      simp [updV]
    · have h1 : (q < i + 1) = (q < i) := propext ⟨fun h => Nat.lt_of_le_of_ne (Nat.le_of_lt_succ h) hq, fun h => Nat.lt_succ_of_lt h⟩
      simp only [updV, if_neg hq, h1]
def gSv (μ : Mem) (r : Option Nat) : Option (Option Nat) := if r = some (mS μ) then some (some (mV μ)) else none
def gSc (μ : Mem) (r : Option Nat) : Option Int32 := if r = some (mS μ) then some 0 else none
def aB (μ : Mem) (r : Option Nat) (i : Int32) : Option Int32 := if r = some (mV μ) then (if i < 0 ∨ 26 ≤ i.toNatClampNeg then none else some (scb.getD i.toNatClampNeg 0)) else none
def aLb (μ : Mem) (r : Option Nat) : Option Int32 := if r = some (mV μ) then some 26 else none
section
variable {X : CX} {cc : ByteArray} {nL pc : Nat} {own : String} {ret : Option FieldType} {lv : List (Nat × TV)} {st : List TV} {cells slots : Nat} {μ : Mem} {β : Type} {res : β}
theorem wm_cln (E : EV X cc nL own ret) {index t B : Nat} {r : Option Nat} {F : Option Nat → Mem → Option β} (hk : KL own index) (ht : aty[t]? = some .int) (h : b2 (clI μ r t B) F = some res) (hf : 1 ≤ (xR X).frames) (hs : 22 ≤ (xR X).locals) (hc : cells + 1 ≤ (xR X).cells) (hsl : slots + B ≤ (xR X).slots) (hsm : (st.map tcat).sum ≤ 8) (hdg : decode cc pc = .ok (.invokevirtual index, 3)) (kk : ∀ x μ2, F x μ2 = some res → WM X nL (pc + 3) lv (vR x :: st) (cells + 1) (slots + B) μ2) : WM X nL pc lv (vR r :: st) cells slots μ := by
  obtain ⟨x, μ2, e1, e2⟩ := b2S h
  have kk := kk x μ2 e2
  obtain ⟨a, n, f, rfl, hca, hnB, rfl, rfl⟩ := clIS e1
  obtain ⟨G, ed, lo, p, l, e, R, s, m, args, below, meth, c, Q⟩ := X
  obtain ⟨hx, hb, hml, hown, hts, hN, hK, hO, hlo, hlk, hret⟩ := E
  obtain ⟨y1, y2, y3, y4, y5, y6⟩ := hk
  intro H locs ls hw hl
  obtain ⟨hM, hE, hW, hS⟩ := hw
  have hsum := cat_sum st hsm
  have hs' : 22 ≤ R.locals := hs
  have hcell : H[a]? = some (vp_cell (G.2 t) (n, .inl f)) := hM.2 a _ hca
  obtain ⟨kA, comp, k1, k2, k3, k4⟩ := hK.2 t _ ht
  obtain ⟨c0, t0', f1, f2, f3⟩ := Cond.castable_spec (va_Nw.use (A := args) rfl (hN _ y6))
  have hnm : s.vm.findClass "[I" = some (G.2 t) := k3
  have hc0 : c0 = G.2 t := Option.some.inj (f1.symm.trans hnm)
  subst hc0
  intro T hT X
  obtain ⟨kT, hkT, heT⟩ := X.warmed.alike.2.2 _ _ k1
  obtain ⟨vm', X', st'⟩ := X.cloneArray hx hown (hts _ y1) (hts _ y2) (hts _ y3) (hts _ y4) (hts _ y5) (a := a) (cell := vp_cell (G.2 t) (n, .inl f)) (by rw [hT]; exact hcell) (fun k h => by cases h) (fun h => by cases h) hnm f2 f3
    (fun i v hv => by
      have hv : (arrV (G.2 t) n (fun j => .int (f j))).slots[i]? = some v := hv
      by_cases hi : i < n
      · rw [arrV_read _ _ hi] at hv
        cases hv
        have hk2 : kT.kind = .array comp .int := by rw [heT]; exact k2
        show T.fitsSlot (G.2 t) .none i (.int (f i)) = true
        simp [State.fitsSlot, State.slotType?, hkT, hk2, fits]
      · rw [Array.getElem?_eq_none (by rw [arrV_size]; omega)] at hv
        cases hv)
    (g := F0 m pc ls (.ref a :: st.map tv)) rfl (by rw [hml]; exact hl.1) (rest := st.map tv) rfl (by rw [hb]; exact hdg) hf (by show 2 * 0 + _ + 14 ≤ _; omega) hc (by show slots + (arrV (G.2 t) n (fun j => .int (f j))).slots.size ≤ _; rw [arrV_size]; exact Nat.le_trans (Nat.add_le_add_left hnB _) hsl) (hloader := Vm.clonesLoader_of_array k1 k2)
  have e9 : ({ cls := (vp_cell (G.2 t) (n, .inl f)).cls, slots := (vp_cell (G.2 t) (n, .inl f)).slots } : Cell) = vp_cell (G.2 t) (n, .inl f) := rfl
  have e8 : (vp_cell (G.2 t) (n, .inl f)).slots.size = n := arrV_size _ _ _
  rw [e9, e8] at X'
  rw [e9] at st'
  generalize hH1 : H.push (vp_cell (G.2 t) (n, .inl f)) = H1
  have z1 : H1.size = H.size + 1 := by rw [← hH1, Array.size_push]
  have q1 : H1[H.size]? = some (vp_cell (G.2 t) (n, .inl f)) := by rw [← hH1, Array.getElem?_push_size]
  have o1 : ∀ q : Nat, q < H.size → H1[q]? = H[q]? := fun q hq => by rw [← hH1, Array.getElem?_push, if_neg (Nat.ne_of_lt hq)]
  have K := W.widen (Nat.le_refl (cells + 1)) (Nat.add_le_add_left hnB slots) (kk H1 locs ls ⟨hM.push (e := .inl (t, n, .inl f)) q1 z1 o1, hE, hW, ⟨Nat.le_trans hS.1 (by omega), fun x h1 h2 => (o1 x (Nat.lt_of_lt_of_le h1 hS.1)).trans (hS.2.1 x h1 h2), hS.2.2⟩⟩ hl)
  obtain ⟨t9, b1, b2⟩ := K ((T.setVm vm').pushCell (vp_cell (G.2 t) (n, .inl f))) (by rw [← hH1, ← hT]; rfl) X'
  refine ⟨t9, st' t9 ?_, b2⟩
  rw [hT, hM.1]
  exact b1
theorem wm_ckA (E : EV X cc nL own ret) {index t : Nat} {r : Option Nat} {F : Unit → Option β} (ht : aty[t]? = some .int) (hlink : Cond.classLink own index "[I" ∈ GW) (h : b1 (cKA μ r t) F = some res) (hdg : decode cc pc = .ok (.checkcast index, 3)) (kk : F () = some res → WM X nL (pc + 3) lv (vR r :: st) cells slots μ) : WM X nL pc lv (vR r :: st) cells slots μ := by
  obtain ⟨x, h1, h2⟩ := b1S h
  have kk := kk h2
  unfold cKA at h1
  split at h1
  · rename_i o ho
    obtain ⟨a, x⟩ := o
    obtain ⟨rfl, hc⟩ := aCS ho
    obtain ⟨G, ed, lo, p, l, e, R, s, m, args, below, meth, c, Q⟩ := X
    obtain ⟨hx, hb, hml, hown, hts, hN, hK, hO, hlo, hlk, hret⟩ := E
    intro H locs ls hw hl
    have hP : va_P G.1 vwCl [(a, .inl (G.2 t, x))] H := fun j q hj => by
      cases j with
      | zero => cases hj; exact hw.1.2 a _ hc
      | succ j => simp at hj
    obtain ⟨kA, comp, k1, k2, k3, k4⟩ := hK.2 t _ ht
    exact va_castA (ws := [(a, .inl (G.2 t, x))]) hx hb hown (hts _ hlink) hP 0 rfl k3 hdg (kk H locs ls hw hl)
  · cases h1
theorem wm_mna (E : EV X cc nL own ret) {index t t0 : Nat} {F : Option Nat → Mem → Option β} (ht : aty[t]? = some (.array .int)) (ht0 : aty[t0]? = some .int) (hcl : Cond.classLink own index "[[I" ∈ GW) (hov : Cond.arrayOver (.array .int) ∈ NW) (hac : Cond.arrayClass .int ∈ GW) (h : b2 (nT_ μ t t0 11 11) F = some res) (hc : cells + 12 ≤ (xR X).cells) (hs : slots + 132 ≤ (xR X).slots) (hdg : decode cc pc = .ok (.multianewarray index 2, 4)) (kk : ∀ x μ2, F x μ2 = some res → WM X nL (pc + 4) lv (vR x :: st) (cells + 12) (slots + 132) μ2) : WM X nL pc lv (vI 11 :: vI 11 :: st) cells slots μ := by
  obtain ⟨x, μ2, e1, e2⟩ := b2S h
  have kk := kk x μ2 e2
  unfold nT_ at e1
  obtain ⟨rfl, rfl⟩ := Prod.mk.inj (Option.some.inj e1)
  obtain ⟨G, ed, lo, p, l, e, R, s, m, args, below, meth, c, Q⟩ := X
  obtain ⟨hx, hb, hml, hown, hts, hN, hK, hO, hlo, hlk, hret⟩ := E
  intro H locs ls hw hl
  obtain ⟨hM, hE, hW, hS⟩ := hw
  intro T hT Xs
  have hc' : cells + 12 ≤ R.cells := hc
  have hs' : slots + 132 ≤ R.slots := hs
  obtain ⟨vm₁, cA, comp, -, fA, fC, hOu, -, X', step⟩ := Xs.multianewarray2F hx (ty := .int) hown (hts _ hcl) (show (Cond.arrayOver (.array .int)).before args s = true from hN _ hov) (hts _ hac) (g := F0 m pc ls (.int 11 :: .int 11 :: st.map tv)) rfl (by rw [hb]; exact hdg) rfl (by decide) (by decide) (by decide) (by decide) (by decide) rfl rfl (by show cells + (1 + 11) ≤ _; omega) (by show slots + (11 + 11 * 11) ≤ _; omega)
  obtain ⟨kA, comp1, k1, k2, k3, k4⟩ := hK.2 t _ ht
  obtain ⟨kB, comp2, j1, j2, j3, j4⟩ := hK.2 t0 _ ht0
  have hcA : cA = G.2 t := Option.some.inj (fA.symm.trans k3)
  have hcB : comp = G.2 t0 := Option.some.inj (fC.symm.trans j3)
  subst hcA
  subst hcB
  have e11 : (11 : Int32).toNatClampNeg = 11 := by decide
  rw [e11] at X' step
  generalize hF : Jvm.Free.Multi.fill (T.setVm vm₁) (G.2 t) (G.2 t0) 11 11 (defaultValue .int) 11 = F9 at X' step
  have hTh : (T.setVm vm₁).heap = H := hT
  obtain ⟨f1, f2, -, -⟩ := Jvm.Free.Multi.fill_facts (T.setVm vm₁) (G.2 t) (G.2 t0) 11 11 (defaultValue .int) 11
  rw [hF, hTh] at f1 f2
  have hold : ∀ x : Nat, x < H.size → F9.heap[x]? = H[x]? := fun x hx => by
    have := Jvm.Free.Multi.fill_old (T.setVm vm₁) (G.2 t) (G.2 t0) 11 11 (defaultValue .int) (a := x) (by rw [hTh]; exact hx) 11
    rw [hF, hTh] at this
    exact this
  have hrow : ∀ j : Nat, j < 11 → F9.heap[H.size + 1 + j]? = some (vp_cell (G.2 t0) (11, .inl (fun _ => 0))) := fun j hj => by
    have := Jvm.Free.Multi.fill_inner (T.setVm vm₁) (G.2 t) (G.2 t0) 11 11 (defaultValue .int) 11 j hj
    rw [hF, hTh] at this
    rw [this]
    rfl
  have hout : Jvm.Free.Multi.outerC (G.2 t) 11 H.size 11 = vp_cell (G.2 t) (11, .inr (.inr (.inr (.inr (fun i => if i < 11 then some (H.size + 1 + i) else none))))) := by
    rw [outer_eq, vp_cell_q]
    congr 1
    funext j
    by_cases hj : j < 11
    · rw [if_pos hj, if_pos hj]
      rfl
    · rw [if_neg hj, if_neg hj]
      rfl
  rw [hout] at f2
  have hM2 : MM G (rows (m_push μ (.inl (t, 11, .inr (.inr (.inr (.inr (fun i => if i < 11 then some (mN μ + 1 + i) else none))))))) t0 11 11) F9.heap := by
    refine ⟨by rw [rows_N, f1, hM.1]; rfl, fun a e he => ?_⟩
    rcases rows_F _ _ _ _ _ _ he with he | ⟨j, hj, rfl, rfl⟩
    · by_cases ha : a = mN μ
      · subst ha
        have : (.inl (t, 11, .inr (.inr (.inr (.inr (fun i => if i < 11 then some (mN μ + 1 + i) else none))))) : ME) = e := Option.some.inj ((va_up_self (mF μ) _ _).symm.trans he)
        subst this
        show F9.heap[mN μ]? = some (vp_cell (G.2 t) (11, _))
        rw [← hM.1]
        exact f2
      · have h2 := hM.2 a e ((va_up_ne (mF μ) _ ha).symm.trans he)
        exact h2.kept (hold a h2.lt)
    · show F9.heap[mN μ + 1 + j]? = some (vp_cell (G.2 t0) (11, .inl (fun _ => 0)))
      rw [← hM.1]
      exact hrow j hj
  obtain ⟨t9, a1, b1⟩ := kk F9.heap locs ls ⟨hM2, by rw [rows_E]; exact hE, by rw [rows_W]; exact hW, ⟨Nat.le_trans hS.1 (by rw [f1]; omega), fun x h1 h2 => (hold x (Nat.lt_of_lt_of_le h1 hS.1)).trans (hS.2.1 x h1 h2), hS.2.2⟩⟩ hl F9 rfl X'
  refine ⟨t9, step t9 ?_, b1⟩
  rw [hT, hM.1]
  exact a1
theorem wm_gzC (E : EV X cc nL own ret) {index : Nat} (hl : Cond.fieldLink own index "java/lang/String" "COMPACT_STRINGS" "Z" ∈ GW) (hdg : decode cc pc = .ok (.getstatic index, 3)) (kk : WM X nL (pc + 3) lv (vI 1 :: st) cells slots μ) : WM X nL pc lv st cells slots μ := by
  obtain ⟨G, ed, lo, p, l, e, R, s, m, args, below, meth, c, Q⟩ := X
  obtain ⟨hx, hb, hml, hown, hts, hN, hK, hO, hlo, hlk, hret⟩ := E
  intro H locs ls hw hl'
  exact va_gets hx hb hO.1.2.2.2.2.2.2.2.1 hw.2.2.2 hown (hts _ hl) (fun _ h => h) hdg (kk H locs ls hw hl')
theorem wm_gzF (E : EV X cc nL own ret) {index : Nat} (hl : Cond.fieldLink own index "jdk/internal/util/Preconditions" "SIOOBE_FORMATTER" "Ljava/util/function/BiFunction;" ∈ GW) (hdg : decode cc pc = .ok (.getstatic index, 3)) (kk : WM X nL (pc + 3) lv (vR (mB μ) :: st) cells slots μ) : WM X nL pc lv st cells slots μ := by
  obtain ⟨G, ed, lo, p, l, e, R, s, m, args, below, meth, c, Q⟩ := X
  obtain ⟨hx, hb, hml, hown, hts, hN, hK, hO, hlo, hlk, hret⟩ := E
  intro H locs ls hw hl'
  have hE : mB μ = ed.2.2.2.2 := congrArg (fun z : HD => z.2.2.2.2) hw.2.1
  refine va_gets hx hb hO.1.2.2.2.2.2.2.2.2.2.2 hw.2.2.2 hown (hts _ hl) (fun _ h => h) hdg ?_
  have := kk H locs ls hw hl'
  rw [hE] at this
  exact this
theorem wm_ldS (E : EV X cc nL own ret) (ho : own = "PlaceFinder$Word") (hdg : decode cc pc = .ok (.ldc 29, 2)) (kk : WM X nL (pc + 2) lv (vR (some (mS μ)) :: st) cells slots μ) : WM X nL pc lv st cells slots μ := by
  subst ho
  obtain ⟨G, ed, lo, p, l, e, R, s, m, args, below, meth, c, Q⟩ := X
  obtain ⟨hx, hb, hml, hown, hts, hN, hK, hO, hlo, hlk, hret⟩ := E
  intro H locs ls hw hl'
  have hE : mS μ = ed.2.2.1 := congrArg (fun z : HD => z.2.2.1) hw.2.1
  refine va_ldcS hx hb hown hO.2.1 hdg ?_
  have := kk H locs ls hw hl'
  rw [hE] at this
  exact this
theorem wm_gSv (E : EV X cc nL own ret) {index : Nat} {r : Option Nat} {F : Option Nat → Option β} (hl : Cond.fieldLink own index "java/lang/String" "value" "[B" ∈ GW) (h : b1 (gSv μ r) F = some res) (hdg : decode cc pc = .ok (.getfield index, 3)) (kk : ∀ x, F x = some res → WM X nL (pc + 3) lv (vR x :: st) cells slots μ) : WM X nL pc lv (vR r :: st) cells slots μ := by
  obtain ⟨x, h1, h2⟩ := b1S h
  have kk := kk x h2
  obtain ⟨hr9, h3⟩ := ifS h1
  subst hr9
  cases h3
  obtain ⟨G, ed, lo, p, l, e, R, s, m, args, below, meth, c, Q⟩ := X
  obtain ⟨hx, hb, hml, hown, hts, hN, hK, hO, hlo, hlk, hret⟩ := E
  intro H locs ls hw hl'
  have hE : mS μ = ed.2.2.1 := congrArg (fun z : HD => z.2.2.1) hw.2.1
  have hE2 : mV μ = ed.2.2.2.1 := congrArg (fun z : HD => z.2.2.2.1) hw.2.1
  obtain ⟨cf, k, fi, f, cell, q1, q2, q3, q4, q5, q6⟩ := hO.1.2.2.2.2.2.1.kept hw.2.2.2.2.1
  have := kk H locs ls hw hl'
  rw [hE2] at this
  rw [hE]
  exact W.getf hx hb hown (hts _ hl) q1 q2 q3 q4 (v := .ref ed.2.2.2.1) q5 rfl rfl hdg this
theorem wm_gSc (E : EV X cc nL own ret) {index : Nat} {r : Option Nat} {F : Int32 → Option β} (hl : Cond.fieldLink own index "java/lang/String" "coder" "B" ∈ GW) (h : b1 (gSc μ r) F = some res) (hdg : decode cc pc = .ok (.getfield index, 3)) (kk : ∀ x, F x = some res → WM X nL (pc + 3) lv (vI x :: st) cells slots μ) : WM X nL pc lv (vR r :: st) cells slots μ := by
  obtain ⟨x, h1, h2⟩ := b1S h
  have kk := kk x h2
  obtain ⟨hr9, h3⟩ := ifS h1
  subst hr9
  cases h3
  obtain ⟨G, ed, lo, p, l, e, R, s, m, args, below, meth, c, Q⟩ := X
  obtain ⟨hx, hb, hml, hown, hts, hN, hK, hO, hlo, hlk, hret⟩ := E
  intro H locs ls hw hl'
  have hE : mS μ = ed.2.2.1 := congrArg (fun z : HD => z.2.2.1) hw.2.1
  obtain ⟨cf, k, fi, f, cell, q1, q2, q3, q4, q5, q6⟩ := hO.1.2.2.2.2.1.kept hw.2.2.2.2.1
  have := kk H locs ls hw hl'
  rw [hE]
  exact W.getf hx hb hown (hts _ hl) q1 q2 q3 q4 (v := .int 0) q5 rfl rfl hdg this
theorem wm_aB (E : EV X cc nL own ret) {r : Option Nat} {i : Int32} {F : Int32 → Option β} (h : b1 (aB μ r i) F = some res) (hdg : decode cc pc = .ok (.baload, 1)) (kk : ∀ x, F x = some res → WM X nL (pc + 1) lv (vI x :: st) cells slots μ) : WM X nL pc lv (vI i :: vR r :: st) cells slots μ := by
  obtain ⟨x, h1, h2⟩ := b1S h
  have kk := kk x h2
  obtain ⟨hr9, h3⟩ := ifS h1
  subst hr9
  split at h3
  · cases h3
  rename_i hi
  obtain ⟨G, ed, lo, p, l, e, R, s, m, args, below, meth, c, Q⟩ := X
  obtain ⟨hx, hb, hml, hown, hts, hN, hK, hO, hlo, hlk, hret⟩ := E
  intro H locs ls hw hl'
  have hE2 : mV μ = ed.2.2.2.1 := congrArg (fun z : HD => z.2.2.2.1) hw.2.1
  rw [hE2]
  exact va_tb hx hb hO.1.2.2.2.2.2.2.1 hw.2.2.2 hi (congrArg Value.int (Option.some.inj h3)) hdg (kk H locs ls hw hl')
theorem wm_aLb (E : EV X cc nL own ret) {r : Option Nat} {F : Int32 → Option β} (h : b1 (aLb μ r) F = some res) (hdg : decode cc pc = .ok (.arraylength, 1)) (kk : ∀ x, F x = some res → WM X nL (pc + 1) lv (vI x :: st) cells slots μ) : WM X nL pc lv (vR r :: st) cells slots μ := by
  obtain ⟨x, h1, h2⟩ := b1S h
  have kk := kk x h2
  obtain ⟨hr9, h3⟩ := ifS h1
  subst hr9
  cases h3
  obtain ⟨G, ed, lo, p, l, e, R, s, m, args, below, meth, c, Q⟩ := X
  obtain ⟨hx, hb, hml, hown, hts, hN, hK, hO, hlo, hlk, hret⟩ := E
  intro H locs ls hw hl'
  have hE2 : mV μ = ed.2.2.2.1 := congrArg (fun z : HD => z.2.2.2.1) hw.2.1
  rw [hE2]
  exact va_tlen hx hb hO.1.2.2.2.2.2.2.1 hw.2.2.2 (N := 26) rfl hdg (kk H locs ls hw hl')
end
