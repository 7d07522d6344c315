section
variable {X : CX} {cc : ByteArray} {nL pc : Nat} {own : String} {ret : Option FieldType} {lv : List (Nat × TV)} {st : List TV} {cells slots : Nat} {μ : Mem} {β : Type} {res : β}
theorem wm_pI (E : EV X cc nL own ret) {index ci k : Nat} {r : Option Nat} {x : Int32} {fin : Bool} {F : Mem → Option β} (hf : FP own index ci k .int fin) (hfin : fin = true → X.2.2.2.2.2.2.2.2.2.2.2.1.name = "<init>") (h : b1 (pV μ r ci k (vI x)) F = some res) (hdg : decode cc pc = .ok (.putfield index, 3)) (kk : ∀ μ2, F μ2 = some res → WM X nL (pc + 3) lv st cells slots μ2) : WM X nL pc lv (vI x :: vR r :: st) cells slots μ := by
  obtain ⟨μ2, h1, h2⟩ := b1S h
  exact wm_put0 E hf hfin rfl rfl h1 hdg (kk μ2 h2)
theorem wm_pL (E : EV X cc nL own ret) {index ci k : Nat} {r : Option Nat} {x : Int64} {fin : Bool} {F : Mem → Option β} (hf : FP own index ci k .long fin) (hfin : fin = true → X.2.2.2.2.2.2.2.2.2.2.2.1.name = "<init>") (h : b1 (pV μ r ci k (vL x)) F = some res) (hdg : decode cc pc = .ok (.putfield index, 3)) (kk : ∀ μ2, F μ2 = some res → WM X nL (pc + 3) lv st cells slots μ2) : WM X nL pc lv (vL x :: vR r :: st) cells slots μ := by
  obtain ⟨μ2, h1, h2⟩ := b1S h
  exact wm_put0 E hf hfin rfl rfl h1 hdg (kk μ2 h2)
theorem wm_pZ (E : EV X cc nL own ret) {index ci k : Nat} {r : Option Nat} {x : Int32} {fin : Bool} {F : Mem → Option β} (hf : FP own index ci k .boolean fin) (hfin : fin = true → X.2.2.2.2.2.2.2.2.2.2.2.1.name = "<init>") (h : b1 (pZ μ r ci k x) F = some res) (hdg : decode cc pc = .ok (.putfield index, 3)) (kk : ∀ μ2, F μ2 = some res → WM X nL (pc + 3) lv st cells slots μ2) : WM X nL pc lv (vI x :: vR r :: st) cells slots μ := by
  obtain ⟨μ2, h1, h2⟩ := b1S h
  unfold pZ at h1
  split at h1
  · rename_i hx
    rcases hx with rfl | rfl
    · exact wm_put0 E hf hfin rfl rfl h1 hdg (kk μ2 h2)
    · exact wm_put0 E hf hfin rfl rfl h1 hdg (kk μ2 h2)
  · cases h1
theorem wm_pR (E : EV X cc nL own ret) {index ci k : Nat} {r x : Option Nat} {ty : FieldType} {fin : Bool} {F : Mem → Option β} (hf : FP own index ci k ty fin) (hty : (∃ n, ty = .object n) ∨ ∃ t, ty = .array t) (hfin : fin = true → X.2.2.2.2.2.2.2.2.2.2.2.1.name = "<init>") (h : b1 (pV μ r ci k (vR x)) F = some res) (hdg : decode cc pc = .ok (.putfield index, 3)) (kk : ∀ μ2, F μ2 = some res → WM X nL (pc + 3) lv st cells slots μ2) : WM X nL pc lv (vR x :: vR r :: st) cells slots μ := by
  obtain ⟨μ2, h1, h2⟩ := b1S h
  refine wm_put0 E hf hfin ?_ ?_ h1 hdg (kk μ2 h2)
  · rcases hty with ⟨n, rfl⟩ | ⟨t, rfl⟩ <;> cases x <;> rfl
  · rcases hty with ⟨n, rfl⟩ | ⟨t, rfl⟩ <;> cases x <;> rfl
theorem wm_new (E : EV X cc nL own ret) {index ci N : Nat} {fs : List Value} {F : Option Nat → Mem → Option β} (hn : ND own index ci N fs) (h : b2 (nO μ ci fs) F = some res) (hc : cells + 1 ≤ (xR X).cells) (hs : slots + N ≤ (xR X).slots) (hdg : decode cc pc = .ok (.new index, 3)) (kk : ∀ x μ2, F x μ2 = some res → WM X nL (pc + 3) lv (vR x :: st) (cells + 1) (slots + N) μ2) : WM X nL pc lv st cells slots μ := by
  obtain ⟨x, μ2, h1, h2⟩ := b2S h
  have kk := kk x μ2 h2
  obtain ⟨rfl, rfl⟩ : some (mN μ) = x ∧ m_push μ (.inr (ci, fs)) = μ2 := by
    unfold nO at h1
    exact Prod.mk.inj (Option.some.inj h1)
  obtain ⟨G, ed, lo, p, l, e, R, s, m, args, below, meth, c, Q⟩ := X
  obtain ⟨hx, hb, hml, hown, hts, hN, hK, hO, hlo, hlk, hret⟩ := E
  obtain ⟨C, T, ty, hcl, hin, hty, hclink, hinst, hini, hfs⟩ := hn
  intro H locs ls hw hl
  obtain ⟨hM, hE, hW, hS⟩ := hw
  have hKn := hK.1 ci _ hcl
  refine W.newcK hx hb hown (hts _ hclink) (hts _ hinst) (hts _ hini) rfl hdg hc hs hKn.2.1 hM.1 fun H1 kC hkC e1 z1 o1 => ?_
  refine kk H1 locs ls ⟨hM.push (e := .inr (ci, fs)) ?_ (by rw [z1, hM.1]) (fun q hq => o1 q (by rw [← hM.1]; exact hq)), hE, hW, ⟨Nat.le_trans hS.1 (by rw [z1, hM.1]; omega), fun x h1 h2 => (o1 x (by rw [← hM.1]; exact Nat.lt_of_lt_of_le h1 hS.1)).trans (hS.2.1 x h1 h2), hS.2.2⟩⟩ hl
  rw [hM.1]
  exact ⟨_, hcl, (u_born ty hts hin hKn hkC e1 hty).to hfs⟩
/-! arrays -/
theorem wm_alen (E : EV X cc nL own ret) {r : Option Nat} {F : Int32 → Option β} (h : b1 (aLen μ r) F = some res) (hdg : decode cc pc = .ok (.arraylength, 1)) (kk : ∀ x, F x = some res → WM X nL (pc + 1) lv (vI x :: st) cells slots μ) : WM X nL pc lv (vR r :: st) cells slots μ := by
  obtain ⟨x, h1, h2⟩ := b1S h
  have kk := kk x h2
  unfold aLen at h1
  split at h1
  · cases h1
  · rename_i a
    obtain ⟨G, ed, lo, p, l, e, R, s, m, args, below, meth, c, Q⟩ := X
    obtain ⟨hx, hb, hml, hown, hts, hN, hK, hO, hlo, hlk, hret⟩ := E
    intro H locs ls hw hl
    obtain ⟨hM, hE, hW, hS⟩ := id hw
    split at h1
    · rename_i ha
      cases h1
      have hD : a = ed.1 := ha.trans (congrArg Prod.fst hE)
      subst hD
      exact va_tlen hx hb hO.1.2.1 hS (N := 0) rfl hdg (kk H locs ls hw hl)
    · split at h1
      · rename_i o ho
        split at h1
        · rename_i ht
          cases h1
          have hA := hK.2 o.1 _ (List.getElem?_eq_getElem ht)
          have hcell := hM.2 a _ ho
          obtain ⟨t, n, f⟩ := o
          have hsz : (vp_cell (G.2 t) (n, f)).slots.size = n := by
            match f with
            | .inl _ => exact arrV_size _ _ _
            | .inr (.inl _) => exact arrV_size _ _ _
            | .inr (.inr (.inl _)) => exact arrV_size _ _ _
            | .inr (.inr (.inr (.inl _))) => exact arrV_size _ _ _
            | .inr (.inr (.inr (.inr _))) => exact arrV_size _ _ _
          have harr : s.isArrayOf (vp_cell (G.2 t) (n, f)) aty[t] := by
            match f with
            | .inl g => exact hA.arr n (fun j => .int (g j))
            | .inr (.inl g) => exact hA.arr n (fun j => .long (g j))
            | .inr (.inr (.inl g)) => exact hA.arr n (fun j => .float (g j))
            | .inr (.inr (.inr (.inl g))) => exact hA.arr n (fun j => .double (g j))
            | .inr (.inr (.inr (.inr g))) => exact hA.arr n (fun j => va_rf (g j))
          exact W.alen (n := Int32.ofNat n) hx hb hcell harr (by rw [hsz]) rfl rfl hdg (kk H locs ls hw hl)
        · cases h1
      · cases h1
theorem wm_iald (E : EV X cc nL own ret) {r : Option Nat} {t : Nat} {i : Int32} {F : Int32 → Option β} (ht : aty[t]? = some .int) (h : b1 (aI μ r t i) F = some res) (hdg : decode cc pc = .ok (.iaload, 1)) (kk : ∀ x, F x = some res → WM X nL (pc + 1) lv (vI x :: st) cells slots μ) : WM X nL pc lv (vI i :: vR r :: st) cells slots μ := by
  obtain ⟨x, h1, h2⟩ := b1S h
  have kk := kk x h2
  obtain ⟨a, n, f, rfl, hc, hi, rfl⟩ := aIS h1
  obtain ⟨G, ed, lo, p, l, e, R, s, m, args, below, meth, c, Q⟩ := X
  obtain ⟨hx, hb, hml, hown, hts, hN, hK, hO, hlo, hlk, hret⟩ := E
  intro H locs ls hw hl
  have hlt : i.toNatClampNeg < n := Nat.not_le.mp fun q => hi (Or.inr q)
  exact W.iald (v := .int (f i.toNatClampNeg)) hx hb (hw.1.2 a _ hc) ((hK.2 t _ ht).arr n (fun j => .int (f j))) (fun q => by cases q) (by show ¬ (i < 0 ∨ (arrV _ _ _).slots.size ≤ _); rw [arrV_size]; exact hi) (by show (arrV _ _ _).slots[_]? = _; rw [arrV_read _ _ hlt]) rfl rfl hdg (kk H locs ls hw hl)
theorem wm_cald (E : EV X cc nL own ret) {r : Option Nat} {t : Nat} {i : Int32} {F : Int32 → Option β} (ht : aty[t]? = some .char) (h : b1 (aI μ r t i) F = some res) (hdg : decode cc pc = .ok (.caload, 1)) (kk : ∀ x, F x = some res → WM X nL (pc + 1) lv (vI x :: st) cells slots μ) : WM X nL pc lv (vI i :: vR r :: st) cells slots μ := by
  obtain ⟨x, h1, h2⟩ := b1S h
  have kk := kk x h2
  obtain ⟨a, n, f, rfl, hc, hi, rfl⟩ := aIS h1
  obtain ⟨G, ed, lo, p, l, e, R, s, m, args, below, meth, c, Q⟩ := X
  obtain ⟨hx, hb, hml, hown, hts, hN, hK, hO, hlo, hlk, hret⟩ := E
  intro H locs ls hw hl
  have hlt : i.toNatClampNeg < n := Nat.not_le.mp fun q => hi (Or.inr q)
  exact W.cald (v := .int (f i.toNatClampNeg)) hx hb (hw.1.2 a _ hc) ((hK.2 t _ ht).arr n (fun j => .int (f j))) (fun q => by cases q) (by show ¬ (i < 0 ∨ (arrV _ _ _).slots.size ≤ _); rw [arrV_size]; exact hi) (by show (arrV _ _ _).slots[_]? = _; rw [arrV_read _ _ hlt]) rfl rfl hdg (kk H locs ls hw hl)
theorem wm_zald (E : EV X cc nL own ret) {r : Option Nat} {t : Nat} {i : Int32} {F : Int32 → Option β} (ht : aty[t]? = some .boolean) (h : b1 (aI μ r t i) F = some res) (hdg : decode cc pc = .ok (.baload, 1)) (kk : ∀ x, F x = some res → WM X nL (pc + 1) lv (vI x :: st) cells slots μ) : WM X nL pc lv (vI i :: vR r :: st) cells slots μ := by
  obtain ⟨x, h1, h2⟩ := b1S h
  have kk := kk x h2
  obtain ⟨a, n, f, rfl, hc, hi, rfl⟩ := aIS h1
  obtain ⟨G, ed, lo, p, l, e, R, s, m, args, below, meth, c, Q⟩ := X
  obtain ⟨hx, hb, hml, hown, hts, hN, hK, hO, hlo, hlk, hret⟩ := E
  intro H locs ls hw hl
  have hlt : i.toNatClampNeg < n := Nat.not_le.mp fun q => hi (Or.inr q)
  exact W.zald (v := .int (f i.toNatClampNeg)) hx hb (hw.1.2 a _ hc) ((hK.2 t _ ht).arr n (fun j => .int (f j))) (fun q => by cases q) (by show ¬ (i < 0 ∨ (arrV _ _ _).slots.size ≤ _); rw [arrV_size]; exact hi) (by show (arrV _ _ _).slots[_]? = _; rw [arrV_read _ _ hlt]) rfl rfl hdg (kk H locs ls hw hl)
theorem wm_lald (E : EV X cc nL own ret) {r : Option Nat} {t : Nat} {i : Int32} {F : Int64 → Option β} (ht : aty[t]? = some .long) (h : b1 (aL μ r t i) F = some res) (hdg : decode cc pc = .ok (.laload, 1)) (kk : ∀ x, F x = some res → WM X nL (pc + 1) lv (vL x :: st) cells slots μ) : WM X nL pc lv (vI i :: vR r :: st) cells slots μ := by
  obtain ⟨x, h1, h2⟩ := b1S h
  have kk := kk x h2
  obtain ⟨a, n, f, rfl, hc, hi, rfl⟩ := aLS h1
  obtain ⟨G, ed, lo, p, l, e, R, s, m, args, below, meth, c, Q⟩ := X
  obtain ⟨hx, hb, hml, hown, hts, hN, hK, hO, hlo, hlk, hret⟩ := E
  intro H locs ls hw hl
  have hlt : i.toNatClampNeg < n := Nat.not_le.mp fun q => hi (Or.inr q)
  exact W.lald (v := .long (f i.toNatClampNeg)) hx hb (hw.1.2 a _ hc) ((hK.2 t _ ht).arr n (fun j => .long (f j))) (fun q => by cases q) (by show ¬ (i < 0 ∨ (arrV _ _ _).slots.size ≤ _); rw [arrV_size]; exact hi) (by show (arrV _ _ _).slots[_]? = _; rw [arrV_read _ _ hlt]) rfl rfl hdg (kk H locs ls hw hl)
theorem wm_aald (E : EV X cc nL own ret) {r : Option Nat} {t : Nat} {i : Int32} {ty : FieldType} {F : Option Nat → Option β} (ht : aty[t]? = some ty) (hty : ty.isReference = true) (h : b1 (aR μ r t i) F = some res) (hdg : decode cc pc = .ok (.aaload, 1)) (kk : ∀ x, F x = some res → WM X nL (pc + 1) lv (vR x :: st) cells slots μ) : WM X nL pc lv (vI i :: vR r :: st) cells slots μ := by
  obtain ⟨x, h1, h2⟩ := b1S h
  have kk := kk x h2
  obtain ⟨a, n, f, rfl, hc, hi, rfl⟩ := aRS h1
  obtain ⟨G, ed, lo, p, l, e, R, s, m, args, below, meth, c, Q⟩ := X
  obtain ⟨hx, hb, hml, hown, hts, hN, hK, hO, hlo, hlk, hret⟩ := E
  intro H locs ls hw hl
  have hlt : i.toNatClampNeg < n := Nat.not_le.mp fun q => hi (Or.inr q)
  exact W.aald (v := va_rf (f i.toNatClampNeg)) hx hb (hw.1.2 a _ hc) ((hK.2 t _ ht).arr n (fun j => va_rf (f j))) hty (fun q => by cases q) (by show ¬ (i < 0 ∨ (arrV _ _ _).slots.size ≤ _); rw [arrV_size]; exact hi) (by show (arrV _ _ _).slots[_]? = _; rw [arrV_read _ _ hlt]) rfl rfl hdg (kk H locs ls hw hl)
theorem wm_iast (E : EV X cc nL own ret) {r : Option Nat} {t : Nat} {i x : Int32} {F : Mem → Option β} (ht : aty[t]? = some .int) (h : b1 (sI μ r t i x) F = some res) (hdg : decode cc pc = .ok (.iastore, 1)) (kk : ∀ μ2, F μ2 = some res → WM X nL (pc + 1) lv st cells slots μ2) : WM X nL pc lv (vI x :: vI i :: vR r :: st) cells slots μ := by
  obtain ⟨μ2, h1, h2⟩ := b1S h
  have kk := kk μ2 h2
  obtain ⟨a, n, f, rfl, hc, hi, ha, rfl⟩ := sIS h1
  obtain ⟨G, ed, lo, p, l, e, R, s, m, args, below, meth, c, Q⟩ := X
  obtain ⟨hx, hb, hml, hown, hts, hN, hK, hO, hlo, hlk, hret⟩ := E
  intro H locs ls hw hl
  obtain ⟨hM, hE, hW, hS⟩ := hw
  refine W.iast hx hb (hM.2 a _ hc) ((hK.2 t _ ht).arr n (fun j => .int (f j))) (fun q => by cases q) (by show ¬ (i < 0 ∨ (arrV _ _ _).slots.size ≤ _); rw [arrV_size]; exact hi) rfl rfl hdg (fun H' e1 e2 e3 => ?_)
  refine kk H' _ ls ⟨hM.set (e := .inl (t, n, .inl (upd f i.toNatClampNeg x))) ?_ e2 e3, hE, hW, hS.put e2 e3 (by rw [← hW]; exact ha)⟩ hl
  show H'[a]? = some (vp_cell (G.2 t) (n, .inl (upd f i.toNatClampNeg x)))
  rw [e1]
  exact congrArg some (arr_store (G.2 t) n i.toNatClampNeg f x)
end
section
variable {X : CX} {cc : ByteArray} {nL pc : Nat} {own : String} {ret : Option FieldType} {lv : List (Nat × TV)} {st : List TV} {cells slots : Nat} {μ : Mem} {β : Type} {res : β}

theorem wm_cast (E : EV X cc nL own ret) {r : Option Nat} {t : Nat} {i : Int32} {x : Int32} {F : Mem → Option β} (ht : aty[t]? = some .char) (h : b1 (sI μ r t i (vp_nar .char x)) F = some res) (hdg : decode cc pc = .ok (.castore, 1)) (kk : ∀ μ2, F μ2 = some res → WM X nL (pc + 1) lv st cells slots μ2) : WM X nL pc lv (vI x :: vI i :: vR r :: st) cells slots μ := by
  obtain ⟨μ2, h1, h2⟩ := b1S h
  have kk := kk μ2 h2
  obtain ⟨a, n, f, rfl, hc, hi, ha, rfl⟩ := sIS h1
  obtain ⟨G, ed, lo, p, l, e, R, s, m, args, below, meth, c, Q⟩ := X
  obtain ⟨hx, hb, hml, hown, hts, hN, hK, hO, hlo, hlk, hret⟩ := E
  intro H locs ls hw hl
  obtain ⟨hM, hE, hW, hS⟩ := hw
  refine W.cast hx hb (hM.2 a _ hc) ((hK.2 t _ ht).arr n (fun j => .int (f j))) (fun q => by cases q) (by show ¬ (i < 0 ∨ (arrV _ _ _).slots.size ≤ _); rw [arrV_size]; exact hi) rfl rfl hdg (fun H' e1 e2 e3 => ?_)
  refine kk H' _ ls ⟨hM.set ?_ e2 e3, hE, hW, hS.put e2 e3 (by rw [← hW]; exact ha)⟩ hl
  show H'[a]? = some (vp_cell _ _)
  rw [e1]
  show some ((vp_cell (G.2 t) (n, _)).setSlot _ _) = some (vp_cell (G.2 t) (n, _))
  rw [vp_cell_i, vp_cell_i, arrV_store]
  congr 2
  funext q
  by_cases hq : q = i.toNatClampNeg
  · subst hq
    simp [updV, upd]
    first | rfl | skip
  · simp [updV, upd, hq]

theorem wm_zast (E : EV X cc nL own ret) {r : Option Nat} {t : Nat} {i : Int32} {x : Int32} {F : Mem → Option β} (ht : aty[t]? = some .boolean) (h : b1 (sI μ r t i (vp_nar .boolean x)) F = some res) (hdg : decode cc pc = .ok (.bastore, 1)) (kk : ∀ μ2, F μ2 = some res → WM X nL (pc + 1) lv st cells slots μ2) : WM X nL pc lv (vI x :: vI i :: vR r :: st) cells slots μ := by
  obtain ⟨μ2, h1, h2⟩ := b1S h
  have kk := kk μ2 h2
  obtain ⟨a, n, f, rfl, hc, hi, ha, rfl⟩ := sIS h1
  obtain ⟨G, ed, lo, p, l, e, R, s, m, args, below, meth, c, Q⟩ := X
  obtain ⟨hx, hb, hml, hown, hts, hN, hK, hO, hlo, hlk, hret⟩ := E
  intro H locs ls hw hl
  obtain ⟨hM, hE, hW, hS⟩ := hw
  refine W.zast hx hb (hM.2 a _ hc) ((hK.2 t _ ht).arr n (fun j => .int (f j))) (fun q => by cases q) (by show ¬ (i < 0 ∨ (arrV _ _ _).slots.size ≤ _); rw [arrV_size]; exact hi) rfl rfl hdg (fun H' e1 e2 e3 => ?_)
  refine kk H' _ ls ⟨hM.set ?_ e2 e3, hE, hW, hS.put e2 e3 (by rw [← hW]; exact ha)⟩ hl
  show H'[a]? = some (vp_cell _ _)
  rw [e1]
  show some ((vp_cell (G.2 t) (n, _)).setSlot _ _) = some (vp_cell (G.2 t) (n, _))
  rw [vp_cell_i, vp_cell_i, arrV_store]
  congr 2
  funext q
  by_cases hq : q = i.toNatClampNeg
  · subst hq
    simp [updV, upd]
    first | rfl | skip
  · simp [updV, upd, hq]

theorem wm_last (E : EV X cc nL own ret) {r : Option Nat} {t : Nat} {i : Int32} {x : Int64} {F : Mem → Option β} (ht : aty[t]? = some .long) (h : b1 (sL μ r t i x) F = some res) (hdg : decode cc pc = .ok (.lastore, 1)) (kk : ∀ μ2, F μ2 = some res → WM X nL (pc + 1) lv st cells slots μ2) : WM X nL pc lv (vL x :: vI i :: vR r :: st) cells slots μ := by
  obtain ⟨μ2, h1, h2⟩ := b1S h
  have kk := kk μ2 h2
  obtain ⟨a, n, f, rfl, hc, hi, ha, rfl⟩ := sLS h1
  obtain ⟨G, ed, lo, p, l, e, R, s, m, args, below, meth, c, Q⟩ := X
  obtain ⟨hx, hb, hml, hown, hts, hN, hK, hO, hlo, hlk, hret⟩ := E
  intro H locs ls hw hl
  obtain ⟨hM, hE, hW, hS⟩ := hw
  refine W.last hx hb (hM.2 a _ hc) ((hK.2 t _ ht).arr n (fun j => .long (f j))) (fun q => by cases q) (by show ¬ (i < 0 ∨ (arrV _ _ _).slots.size ≤ _); rw [arrV_size]; exact hi) rfl rfl hdg (fun H' e1 e2 e3 => ?_)
  refine kk H' _ ls ⟨hM.set ?_ e2 e3, hE, hW, hS.put e2 e3 (by rw [← hW]; exact ha)⟩ hl
  show H'[a]? = some (vp_cell _ _)
  rw [e1]
  show some ((vp_cell (G.2 t) (n, _)).setSlot _ _) = some (vp_cell (G.2 t) (n, _))
  rw [vp_cell_l, vp_cell_l, arrV_store]
  congr 2
  funext q
  by_cases hq : q = i.toNatClampNeg
  · subst hq
    simp [updV, vp_updL]
    
  · simp [updV, vp_updL, hq]

theorem wm_aast (E : EV X cc nL own ret) {r x : Option Nat} {t : Nat} {cs : List Nat} {i : Int32} {C : String} {F : Mem → Option β} (ht : aty[t]? = some (.object C)) (hcs : ∀ ci ∈ cs, AS C ci) (h : b1 (sR μ r t cs i x) F = some res) (hdg : decode cc pc = .ok (.aastore, 1)) (kk : ∀ μ2, F μ2 = some res → WM X nL (pc + 1) lv st cells slots μ2) : WM X nL pc lv (vR x :: vI i :: vR r :: st) cells slots μ := by
  obtain ⟨μ2, h1, h2⟩ := b1S h
  have kk := kk μ2 h2
  obtain ⟨a, n, f, rfl, hc, hi, ha, hok, rfl⟩ := sRS h1
  obtain ⟨G, ed, lo, p, l, e, R, s, m, args, below, meth, c, Q⟩ := X
  obtain ⟨hx, hb, hml, hown, hts, hN, hK, hO, hlo, hlk, hret⟩ := E
  intro H locs ls hw hl
  obtain ⟨hM, hE, hW, hS⟩ := hw
  have hlt : i.toNatClampNeg < n := Nat.not_le.mp fun q => hi (Or.inr q)
  have h0 : ¬ i < 0 := fun q => hi (Or.inl q)
  have fin9 : ∀ H' : Heap, H'[a]? = some ((vp_cell (G.2 t) (n, .inr (.inr (.inr (.inr f))))).setSlot i.toNatClampNeg (va_rf x)) → H'.size = H.size → (∀ q, q ≠ a → H'[q]? = H[q]?) → W p l e R s m args below meth c H' (locs ++ [⟨a, i.toNatClampNeg⟩]) cells slots Q (F0 m (pc + 1) ls (st.map tv)) := by
    intro H' e1 e2 e3
    refine kk H' _ ls ⟨hM.set ?_ e2 e3, hE, hW, hS.put e2 e3 (by rw [← hW]; exact ha)⟩ hl
    show H'[a]? = some (vp_cell _ _)
    rw [e1]
    show some ((vp_cell (G.2 t) (n, _)).setSlot _ _) = some (vp_cell (G.2 t) (n, _))
    rw [vp_cell_q, vp_cell_q, arrV_store]
    congr 2
    funext q
    by_cases hq : q = i.toNatClampNeg
    · subst hq
      simp [updV, va_up]
    · simp [updV, va_up, hq]
  cases x with
  | none => exact va_WaastN (C := C) hx hb (hM.2 a _ hc) ((hK.2 t _ ht).arr n (fun j => va_rf (f j))) (fun h => by cases h) (by show ¬ (i < 0 ∨ (arrV _ _ _).slots.size ≤ _); rw [arrV_size]; exact hi) rfl rfl hdg fin9
  | some v =>
    unfold okS at hok
    split at hok
    · rename_i hb; cases hb
    · rename_i v' hv'
      cases hv'
      split at hok
      · rename_i ov hov
        obtain ⟨D, T, N, hcl, hD⟩ := hcs ov.1 (List.contains_iff_mem.mp hok)
        obtain ⟨r', hr', cellV, g1, g2, g3, -⟩ := hM.2 v _ hov
        have hcls := (hK.1 ov.1 _ hcl).2
        obtain ⟨kA, comp, k1, k2, k3, k4⟩ := hK.2 t _ ht
        have k4 : s.vm.findClass C = some comp := k4
        obtain ⟨kE, hkE, -⟩ := Vm.findClass_spec k4
        obtain ⟨kC, hkC, -⟩ := hcls.2
        have has : s.vm.assignable (G.1.1 ov.1) comp = true := by
          rcases hD with rfl | hD
          · have : comp = G.1.1 ov.1 := Option.some.inj (k4.symm.trans hcls.1)
            rw [this]
            exact va_assign hcls
          · obtain ⟨c0, t1, f1, f2, f3⟩ := Cond.castable_spec (va_Nw.use (A := args) rfl (hN _ hD))
            cases hcls.1.symm.trans f1
            cases k4.symm.trans f2
            exact f3
        exact W.aast hx hb (hM.2 a _ hc) (fun q h => by cases h) (fun h => by cases h) k1 k2 rfl hkE ⟨h0, by show _ < (arrV _ _ _).slots.size; rw [arrV_size]; exact hlt⟩ g1 (fun q h => by rw [g3] at h; cases h) (by rw [g2]; exact hkC) (by rw [g2]; exact has) rfl rfl hdg fin9
      · cases hok

theorem wm_newi (E : EV X cc nL own ret) {atype : ArrayType} {t B : Nat} {n : Int32} {ty : FieldType} {F : Option Nat → Mem → Option β} (ht : aty[t]? = some ty) (hty : newarray.typeOf atype = ty) (hd : defaultValue ty = .int 0) (harr : Cond.arrayClass ty ∈ GW) (h : b2 (nI_ μ t n B) F = some res) (hB : B * componentBytes ty ≤ 536870912) (hc : cells + 1 ≤ (xR X).cells) (hs : slots + B ≤ (xR X).slots) (hdg : decode cc pc = .ok (.newarray atype, 2)) (kk : ∀ x μ2, F x μ2 = some res → WM X nL (pc + 2) lv (vR x :: st) (cells + 1) (slots + B) μ2) : WM X nL pc lv (vI n :: st) cells slots μ := by
  obtain ⟨x, μ2, h1, h2⟩ := b2S h
  have kk := kk x μ2 h2
  unfold nI_ at h1
  split at h1
  · cases h1
  rename_i hn
  obtain ⟨rfl, rfl⟩ := Prod.mk.inj (Option.some.inj h1)
  have hn0 : ¬ n < 0 := fun q => hn (Or.inl q)
  have hnB : n.toNatClampNeg ≤ B := Nat.not_lt.mp fun q => hn (Or.inr q)
  subst hty
  obtain ⟨G, ed, lo, p, l, e, R, s, m, args, below, meth, c, Q⟩ := X
  obtain ⟨hx, hb, hml, hown, hts, hN, hK, hO, hlo, hlk, hret⟩ := E
  intro H locs ls hw hl
  obtain ⟨hM, hE, hW, hS⟩ := hw
  refine va_newaK hx hb (hts _ harr) rfl hdg rfl hn0 rfl (Nat.le_trans (Nat.mul_le_mul_right _ hnB) hB) hc (Nat.le_trans (Nat.add_le_add_left hnB _) hs) hM.1 fun H1 cA e1 z1 o1 hAr hNm => ?_
  refine W.widen (Nat.le_refl _) (Nat.add_le_add_left hnB _) ?_
  refine kk H1 locs ls ⟨hM.push (e := .inl (t, n.toNatClampNeg, .inl (fun _ => 0))) ?_ (by rw [z1, hM.1]) (fun q hq => o1 q (by rw [← hM.1]; exact hq)), hE, hW, ⟨Nat.le_trans hS.1 (by rw [z1, hM.1]; omega), fun x h1 h2 => (o1 x (by rw [← hM.1]; exact Nat.lt_of_lt_of_le h1 hS.1)).trans (hS.2.1 x h1 h2), hS.2.2⟩⟩ hl
  obtain ⟨kA, comp, k1, k2, k3, k4⟩ := hK.2 t _ ht
  have hcA : cA = G.2 t := Option.some.inj (hNm.symm.trans k3)
  subst hcA
  rw [hM.1]
  show H1[mN μ]? = some (vp_cell (G.2 t) (n.toNatClampNeg, _))
  rw [e1, hd]
  rfl

theorem wm_newl (E : EV X cc nL own ret) {atype : ArrayType} {t B : Nat} {n : Int32} {ty : FieldType} {F : Option Nat → Mem → Option β} (ht : aty[t]? = some ty) (hty : newarray.typeOf atype = ty) (hd : defaultValue ty = .long 0) (harr : Cond.arrayClass ty ∈ GW) (h : b2 (nL_ μ t n B) F = some res) (hB : B * componentBytes ty ≤ 536870912) (hc : cells + 1 ≤ (xR X).cells) (hs : slots + B ≤ (xR X).slots) (hdg : decode cc pc = .ok (.newarray atype, 2)) (kk : ∀ x μ2, F x μ2 = some res → WM X nL (pc + 2) lv (vR x :: st) (cells + 1) (slots + B) μ2) : WM X nL pc lv (vI n :: st) cells slots μ := by
  obtain ⟨x, μ2, h1, h2⟩ := b2S h
  have kk := kk x μ2 h2
  unfold nL_ at h1
  split at h1
  · cases h1
  rename_i hn
  obtain ⟨rfl, rfl⟩ := Prod.mk.inj (Option.some.inj h1)
  have hn0 : ¬ n < 0 := fun q => hn (Or.inl q)
  have hnB : n.toNatClampNeg ≤ B := Nat.not_lt.mp fun q => hn (Or.inr q)
  subst hty
  obtain ⟨G, ed, lo, p, l, e, R, s, m, args, below, meth, c, Q⟩ := X
  obtain ⟨hx, hb, hml, hown, hts, hN, hK, hO, hlo, hlk, hret⟩ := E
  intro H locs ls hw hl
  obtain ⟨hM, hE, hW, hS⟩ := hw
  refine va_newaK hx hb (hts _ harr) rfl hdg rfl hn0 rfl (Nat.le_trans (Nat.mul_le_mul_right _ hnB) hB) hc (Nat.le_trans (Nat.add_le_add_left hnB _) hs) hM.1 fun H1 cA e1 z1 o1 hAr hNm => ?_
  refine W.widen (Nat.le_refl _) (Nat.add_le_add_left hnB _) ?_
  refine kk H1 locs ls ⟨hM.push (e := .inl (t, n.toNatClampNeg, .inr (.inl (fun _ => 0)))) ?_ (by rw [z1, hM.1]) (fun q hq => o1 q (by rw [← hM.1]; exact hq)), hE, hW, ⟨Nat.le_trans hS.1 (by rw [z1, hM.1]; omega), fun x h1 h2 => (o1 x (by rw [← hM.1]; exact Nat.lt_of_lt_of_le h1 hS.1)).trans (hS.2.1 x h1 h2), hS.2.2⟩⟩ hl
  obtain ⟨kA, comp, k1, k2, k3, k4⟩ := hK.2 t _ ht
  have hcA : cA = G.2 t := Option.some.inj (hNm.symm.trans k3)
  subst hcA
  rw [hM.1]
  show H1[mN μ]? = some (vp_cell (G.2 t) (n.toNatClampNeg, _))
  rw [e1, hd]
  rfl

theorem wm_newr (E : EV X cc nL own ret) {index t B : Nat} {n : Int32} {C : String} {F : Option Nat → Mem → Option β} (ht : aty[t]? = some (.object C)) (hcl : Cond.classLink own index C ∈ GW) (harr : Cond.arrayOver (.object C) ∈ NW) (h : b2 (nR_ μ t n B) F = some res) (hB : B * 4 ≤ 536870912) (hc : cells + 1 ≤ (xR X).cells) (hs : slots + B ≤ (xR X).slots) (hdg : decode cc pc = .ok (.anewarray index, 3)) (kk : ∀ x μ2, F x μ2 = some res → WM X nL (pc + 3) lv (vR x :: st) (cells + 1) (slots + B) μ2) : WM X nL pc lv (vI n :: st) cells slots μ := by
  obtain ⟨x, μ2, h1, h2⟩ := b2S h
  have kk := kk x μ2 h2
  unfold nR_ at h1
  split at h1
  · cases h1
  rename_i hn
  obtain ⟨rfl, rfl⟩ := Prod.mk.inj (Option.some.inj h1)
  have hn0 : ¬ n < 0 := fun q => hn (Or.inl q)
  have hnB : n.toNatClampNeg ≤ B := Nat.not_lt.mp fun q => hn (Or.inr q)
  obtain ⟨G, ed, lo, p, l, e, R, s, m, args, below, meth, c, Q⟩ := X
  obtain ⟨hx, hb, hml, hown, hts, hN, hK, hO, hlo, hlk, hret⟩ := E
  intro H locs ls hw hl
  obtain ⟨hM, hE, hW, hS⟩ := hw
  refine W.anew hx hb hown (hts _ hcl) (va_AO.use (hN _ harr)) rfl hdg rfl hn0 (Nat.le_trans (Nat.mul_le_mul_right _ hnB) hB) hc (Nat.le_trans (Nat.add_le_add_left hnB _) hs) fun cA kA comp f1 f2 f3 f4 => ?_
  generalize hH1 : H.push ({ cls := cA, slots := Array.replicate n.toNatClampNeg .null, vm := .none } : Cell) = H1
  have z1 : H1.size = H.size + 1 := by rw [← hH1, Array.size_push]
  have e1 : H1[H.size]? = some (arrV cA n.toNatClampNeg (fun _ => .null)) := by rw [← hH1, Array.getElem?_push_size, ← arrV_new]
  have o1 : ∀ q : Nat, q < H.size → H1[q]? = H[q]? := fun q hq => by rw [← hH1, Array.getElem?_push, if_neg (Nat.ne_of_lt hq)]
  refine W.widen (Nat.le_refl _) (Nat.add_le_add_left hnB _) ?_
  rw [hM.1]
  refine kk H1 locs ls ⟨hM.push (e := .inl (t, n.toNatClampNeg, .inr (.inr (.inr (.inr (fun _ => none)))))) ?_ z1 o1, hE, hW, ⟨Nat.le_trans hS.1 (by omega), fun x h1 h2 => (o1 x (Nat.lt_of_lt_of_le h1 hS.1)).trans (hS.2.1 x h1 h2), hS.2.2⟩⟩ hl
  obtain ⟨kA', comp', k1, k2, k3, k4⟩ := hK.2 t _ ht
  have hcA : cA = G.2 t := Option.some.inj (f1.symm.trans k3)
  subst hcA
  show H1[H.size]? = some (vp_cell (G.2 t) (n.toNatClampNeg, _))
  rw [e1]
  rfl

theorem wm_ckc (E : EV X cc nL own ret) {r : Option Nat} {index ci : Nat} {C : String} {T : u_T} {N : Nat} {F : Unit → Option β} (hcl : vwCl[ci]? = some (C, T, N)) (hlink : Cond.classLink own index C ∈ GW) (h : b1 (cK μ r ci) F = some res) (hdg : decode cc pc = .ok (.checkcast index, 3)) (kk : F () = some res → WM X nL (pc + 3) lv (vR r :: st) cells slots μ) : WM X nL pc lv (vR r :: st) cells slots μ := by
  obtain ⟨x, h1, h2⟩ := b1S h
  have kk := kk h2
  unfold cK at h1
  obtain ⟨G, ed, lo, p, l, e, R, s, m, args, below, meth, c, Q⟩ := X
  obtain ⟨hx, hb, hml, hown, hts, hN, hK, hO, hlo, hlk, hret⟩ := E
  intro H locs ls hw hl
  split at h1
  · rename_i hr
    subst hr
    exact lv_castN hx hb hdg (kk H locs ls hw hl)
  · obtain ⟨a, fs, rfl, hc⟩ := rcS h1
    obtain ⟨r', hr', cell, g1, g2, g3, -⟩ := hw.1.2 a _ hc
    have hcls := (hK.1 ci _ hcl).2
    exact va_castS hx hb hown (hts _ hlink) hcls ⟨cell, g1, by rw [g3]; rfl, by rw [g2]; exact hcls.1⟩ hdg (kk H locs ls hw hl)

theorem wm_iret {rt : FieldType} (E : EV X cc nL own (some .int)) {μ0 μ' : Mem} {mc ms : Nat} {x : Int32} {v : Option TV} (hQ : RQ X mc ms μ0 v μ') (hv : v = some (vI x)) (hμ : μ = μ')  (hc : cells ≤ mc) (hs : slots ≤ ms) (hdg : decode cc pc = .ok (.ireturn, 1)) : WM X nL pc lv [vI x] cells slots μ := by
  subst hv; subst hμ
  obtain ⟨G, ed, lo, p, l, e, R, s, m, args, below, meth, c, Q⟩ := X
  obtain ⟨hx, hb, hml, hown, hts, hN, hK, hO, hlo, hlk, hret⟩ := E
  obtain ⟨rfl, rfl, hq⟩ := hQ
  intro H locs ls hw hl
  obtain ⟨hM, hE, hW, hS⟩ := hw
  refine W.widen hc hs (W.mono hq (W.iret hx hb hret (fun t ht hWm => ⟨rfl, ⟨hN.warm hWm, hK.moved hWm.alike, ?_, ?_, ?_⟩, hS.F ht, hE, hW⟩) (fun q hq2 => hS.2.2 q hq2) hdg hlk))
  · rw [ht, hE, hW]; exact (hO.kept hS.2.1).warm hWm
  · rw [ht, hW]; exact Nat.le_trans hlo hS.1
  · rw [ht]; exact hM

theorem wm_zret {rt : FieldType} (E : EV X cc nL own (some rt)) {μ0 μ' : Mem} {mc ms : Nat} {x : Int32} {v : Option TV} (hQ : RQ X mc ms μ0 v μ') (hv : v = some (vI x)) (hμ : μ = μ') (hn : narrow rt (.int x) = .int x) (hc : cells ≤ mc) (hs : slots ≤ ms) (hdg : decode cc pc = .ok (.ireturn, 1)) : WM X nL pc lv [vI x] cells slots μ := by
  subst hv; subst hμ
  obtain ⟨G, ed, lo, p, l, e, R, s, m, args, below, meth, c, Q⟩ := X
  obtain ⟨hx, hb, hml, hown, hts, hN, hK, hO, hlo, hlk, hret⟩ := E
  obtain ⟨rfl, rfl, hq⟩ := hQ
  intro H locs ls hw hl
  obtain ⟨hM, hE, hW, hS⟩ := hw
  refine W.widen hc hs (W.mono hq (W.zret hx hb hret hn (fun t ht hWm => ⟨rfl, ⟨hN.warm hWm, hK.moved hWm.alike, ?_, ?_, ?_⟩, hS.F ht, hE, hW⟩) (fun q hq2 => hS.2.2 q hq2) hdg hlk))
  · rw [ht, hE, hW]; exact (hO.kept hS.2.1).warm hWm
  · rw [ht, hW]; exact Nat.le_trans hlo hS.1
  · rw [ht]; exact hM

theorem wm_lret {rt : FieldType} (E : EV X cc nL own (some .long)) {μ0 μ' : Mem} {mc ms : Nat} {x : Int64} {v : Option TV} (hQ : RQ X mc ms μ0 v μ') (hv : v = some (vL x)) (hμ : μ = μ')  (hc : cells ≤ mc) (hs : slots ≤ ms) (hdg : decode cc pc = .ok (.lreturn, 1)) : WM X nL pc lv [vL x] cells slots μ := by
  subst hv; subst hμ
  obtain ⟨G, ed, lo, p, l, e, R, s, m, args, below, meth, c, Q⟩ := X
  obtain ⟨hx, hb, hml, hown, hts, hN, hK, hO, hlo, hlk, hret⟩ := E
  obtain ⟨rfl, rfl, hq⟩ := hQ
  intro H locs ls hw hl
  obtain ⟨hM, hE, hW, hS⟩ := hw
  refine W.widen hc hs (W.mono hq (W.lret hx hb hret (fun t ht hWm => ⟨rfl, ⟨hN.warm hWm, hK.moved hWm.alike, ?_, ?_, ?_⟩, hS.F ht, hE, hW⟩) (fun q hq2 => hS.2.2 q hq2) hdg hlk))
  · rw [ht, hE, hW]; exact (hO.kept hS.2.1).warm hWm
  · rw [ht, hW]; exact Nat.le_trans hlo hS.1
  · rw [ht]; exact hM

theorem wm_aret {rt : FieldType} (E : EV X cc nL own (some rt)) {μ0 μ' : Mem} {mc ms : Nat} {x : Option Nat} {v : Option TV} (hQ : RQ X mc ms μ0 v μ') (hv : v = some (vR x)) (hμ : μ = μ') (hrt : (∃ n, rt = .object n) ∨ ∃ t, rt = .array t) (hc : cells ≤ mc) (hs : slots ≤ ms) (hdg : decode cc pc = .ok (.areturn, 1)) : WM X nL pc lv [vR x] cells slots μ := by
  subst hv; subst hμ
  obtain ⟨G, ed, lo, p, l, e, R, s, m, args, below, meth, c, Q⟩ := X
  obtain ⟨hx, hb, hml, hown, hts, hN, hK, hO, hlo, hlk, hret⟩ := E
  obtain ⟨rfl, rfl, hq⟩ := hQ
  intro H locs ls hw hl
  obtain ⟨hM, hE, hW, hS⟩ := hw
  refine W.widen hc hs (W.mono hq (W.aret hx hb hret hrt (va_rf_or x) (fun t ht hWm => ⟨rfl, ⟨hN.warm hWm, hK.moved hWm.alike, ?_, ?_, ?_⟩, hS.F ht, hE, hW⟩) (fun q hq2 => hS.2.2 q hq2) hdg hlk))
  · rw [ht, hE, hW]; exact (hO.kept hS.2.1).warm hWm
  · rw [ht, hW]; exact Nat.le_trans hlo hS.1
  · rw [ht]; exact hM

theorem wm_vret (E : EV X cc nL own none) {μ0 μ' : Mem} {mc ms : Nat} {v : Option TV} (hQ : RQ X mc ms μ0 v μ') (hv : v = none) (hμ : μ = μ') (hc : cells ≤ mc) (hs : slots ≤ ms) (hdg : decode cc pc = .ok (.return_, 1)) : WM X nL pc lv [] cells slots μ := by
  subst hv; subst hμ
  obtain ⟨G, ed, lo, p, l, e, R, s, m, args, below, meth, c, Q⟩ := X
  obtain ⟨hx, hb, hml, hown, hts, hN, hK, hO, hlo, hlk, hret⟩ := E
  obtain ⟨rfl, rfl, hq⟩ := hQ
  intro H locs ls hw hl
  obtain ⟨hM, hE, hW, hS⟩ := hw
  refine W.widen hc hs (W.mono hq (W.vret hx hb hret (fun t ht hWm => ⟨rfl, ⟨hN.warm hWm, hK.moved hWm.alike, ?_, ?_, ?_⟩, hS.F ht, hE, hW⟩) (fun q hq2 => hS.2.2 q hq2) hdg hlk))
  · rw [ht, hE, hW]; exact (hO.kept hS.2.1).warm hWm
  · rw [ht, hW]; exact Nat.le_trans hlo hS.1
  · rw [ht]; exact hM

theorem wm_widen {k n : Nat} (h1 : cells ≤ k) (h2 : slots ≤ n) (kk : WM X nL pc lv st k n μ) : WM X nL pc lv st cells slots μ := by
  obtain ⟨G, ed, lo, p, l, e, R, s, m, args, below, meth, c, Q⟩ := X
  exact fun H locs ls hw hl => W.widen h1 h2 (kk H locs ls hw hl)
theorem wm_sub {lv' : List (Nat × TV)} (h : ∀ q ∈ lv', q ∈ lv) (kk : WM X nL pc lv' st cells slots μ) : WM X nL pc lv st cells slots μ := by
  obtain ⟨G, ed, lo, p, l, e, R, s, m, args, below, meth, c, Q⟩ := X
  refine fun H locs ls hw hl => kk H locs ls hw ⟨hl.1, hl.2.1, fun q hq => ?_⟩
  obtain ⟨z, hz, rfl⟩ := List.mem_map.mp hq
  exact hl.2.2 _ (List.mem_map.mpr ⟨z, h z hz, rfl⟩)

abbrev xl (X : CX) : Launch := X.2.2.2.2.1
theorem gw_ws {args : Array Value} {s : State} (hts : ∀ w ∈ GW, w.before args s = true) {y : MethodName} {bytes : ByteArray} {maxL : Nat} {r : Option FieldType} (hc : Cond.code y bytes maxL r ∈ GW) : GoodIn GW (Cond.code y bytes maxL r :: GW) := by
  intro w hw
  rcases List.mem_cons.mp hw with rfl | hw
  · exact ⟨hc, good_of_word (GW_good _ hc)⟩
  · exact ⟨hw, good_of_word (GW_good _ hw)⟩
theorem pc_blind {G : GG} {μ : Mem} {av : List TV} : FrameBlind (PC G μ av) := fun a U g mk q => ⟨q.1, WD.same (u := U) rfl rfl q.2⟩
theorem wd_at {G : GG} {ed : HD} {lo : Nat} {s : State} {μ : Mem} {H : Heap} {locs : List Loc} (hN : NN s) (hK : KK G s) (hO : OO ed lo s s.heap) (hlo : lo ≤ s.heap.size) (hw : WK G ed lo s μ H locs) (U : State) (hU : U.heap = H) (hW : s.WarmedH U.vm) : WD G μ U := by
  obtain ⟨hM, rfl, rfl, hS⟩ := hw
  refine ⟨hN.warm hW, hK.moved hW.alike, ?_, ?_, ?_⟩
  · rw [hU]; exact (hO.kept hS.2.1).warm hW
  · rw [hU]; exact Nat.le_trans hlo hS.1
  · rw [hU]; exact hM
/-- behind a call -/
theorem wm_after {p : Program} {l : Launch} {e : Env} {R : Room} {s : State} {m : MethodId} {args : Array Value} {below : List Frame} {meth : Method} {c : Code} {H : Heap} {locs : List Loc} {mc ms : Nat} {Q : State → Prop} {G : GG} {ed : HD} {lo : Nat} {μ' : Mem} {v : Option TV} {a : Array Value} {ls : Array Slot} {st0 rest : List Value} (hw : WK G ed lo s μ H locs)
    (hr : va_Run p l e R s m args below meth c H locs cells slots mc ms (F0 m pc ls st0) rest (QC G μ μ' v a) (fun q => mW μ ≤ q))
    (kk : ∀ H1 locs1, WK G ed lo s μ' H1 locs1 → W p l e R s m args below meth c H1 locs1 (cells + mc) (slots + ms) Q (F0 m (pc + 3) ls ((v.map tv).toList ++ rest))) : W p l e R s m args below meth c H locs cells slots Q (F0 m pc ls st0) := by
  obtain ⟨hM, rfl, rfl, hS⟩ := hw
  intro T hT X
  obtain ⟨v1, st₀, t, T', L, h0, X', hL, e1, e2, ⟨hv, hWD, ⟨hz, hk⟩, hE, hW⟩, st⟩ := hr T hT X
  have hv1 : v1 = v.map tv := Outcome.returned.inj hv
  subst hv1
  rw [h0] at hz hk
  obtain ⟨t2, a1, b1⟩ := kk T'.heap (locs ++ L) ⟨by rw [e1]; exact hWD.2.2.2.2, hE, hW, ⟨Nat.le_trans hS.1 (by rw [e1]; exact hz), fun q h1 h2 => by rw [e1, hk q (Nat.lt_of_lt_of_le h1 hS.1) h2]; exact hS.2.1 q h1 h2, fun q hq => by
      rcases List.mem_append.mp hq with h | h
      · exact hS.2.2 q h
      · exact hL q h⟩⟩ T' rfl X'
  exact ⟨t2, st t2 a1, b1⟩
/-- a call's facts: nest: the entry names a private member of the nest -/
def LK (own : String) (index : Nat) (y : MethodName) (bytes : ByteArray) (maxL : Nat) (r : Option FieldType) (n : Nat) : Prop := Cond.code y bytes maxL r ∈ GW ∧ Cond.initialized y.cls ∈ GW ∧ (Cond.methodLink own index y ∈ GW ∨ ∃ host, Cond.methodLinkNest own index y host ∈ NW) ∧ (y.cls ≠ "java/lang/invoke/MethodHandle" ∧ y.cls ≠ "java/lang/invoke/VarHandle" ∧ (parseMethodDescriptor y.desc).map (fun d => d.parameters.length) = some n)
theorem lvsz {ls : Array Slot} {nL : Nat} {l : List (Nat × Value)} (h : lv_has ls nL l) : ls.size = nL := h.1
theorem cat_sum (st : List TV) (h : (st.map tcat).sum ≤ 8) : (List.map (fun v : Value => v.category) (st.map tv)).sum ≤ 8 := by
  rw [List.map_map]
  rw [show ((fun v : Value => v.category) ∘ tv) = tcat from funext fun v => (tcat_eq v).symm]
  exact h

theorem wm_cS (E : EV X cc nL own ret) {y : MethodName} {bytes : ByteArray} {maxL index n : Nat} {r' : Option FieldType} {fr mc ms lc : Nat} {As : List TV} {v : Option TV} {μ' : Mem} {st0 : List TV}  (hL : LK own index y bytes maxL r' n) (hsta : Cond.static y ∈ GW)
    (hM : CT (xl X) X.1 y bytes maxL r' fr mc ms lc μ As v μ') (hn : As.length = n) (hst : st0 = As.reverse ++ st) (hR : fr + 1 ≤ (xR X).frames ∧ 8 + (maxL + 11) + lc ≤ (xR X).locals) (hf : cells + mc ≤ (xR X).cells ∧ slots + ms ≤ (xR X).slots) (hsm : (st.map tcat).sum ≤ 8) (hdg : decode cc pc = .ok (.invokestatic index, 3))
    (kk : WM X nL (pc + 3) lv (v.toList ++ st) (cells + mc) (slots + ms) μ') : WM X nL pc lv st0 cells slots μ := by
  subst hst
  obtain ⟨hcode, hini, hlink, hd⟩ := hL
  obtain ⟨G, ed, lo, p, l, e, R, s, m, args, below, meth, c, Q⟩ := X
  obtain ⟨hx, hb, hml, hown, hts, hN, hK, hO, hlo, hlk, hret⟩ := E
  intro H locs ls hw hl
  have hG := gw_ws hts hcode
  have hkk : ∀ H1 locs1, WK G ed lo s μ' H1 locs1 → W p l e R s m args below meth c H1 locs1 (cells + mc) (slots + ms) Q (F0 m (pc + 3) ls ((v.map tv).toList ++ st.map tv)) := by
    intro H1 locs1 hw1
    have := kk H1 locs1 ls hw1 hl
    rw [List.map_append] at this
    cases v <;> exact this
  rcases hlink with hlink | ⟨host, hlink⟩
  · exact wm_after hw (va_runS (As := As.map tv) (rest := st.map tv) ⟨hx, hb, hml, hown, hts⟩ hM ⟨callB_of n hts hG rfl rfl rfl (hts _ hini) (hts _ hlink) hd hR, hts _ hsta⟩ ⟨pc_blind, fun U hU hW => ⟨rfl, wd_at hN hK hO hlo hw U hU hW⟩⟩ rfl (by rw [List.length_map]; exact hn) (lvsz hl) (by show (As.reverse ++ st).map tv = _; rw [List.map_append, List.map_reverse]) (lv_room (cat_sum st hsm)) hdg hf) hkk
  · exact wm_after hw (va_runSN (As := As.map tv) (rest := st.map tv) ⟨hx, hb, hml, hown, hts⟩ hM ⟨va_cnB n hts hG rfl rfl rfl (hN _ hlink) (hts _ hini) hd hR, hts _ hsta, trivial⟩ ⟨pc_blind, fun U hU hW => ⟨rfl, wd_at hN hK hO hlo hw U hU hW⟩⟩ rfl (by rw [List.length_map]; exact hn) (lvsz hl) (by show (As.reverse ++ st).map tv = _; rw [List.map_append, List.map_reverse]) (lv_room (cat_sum st hsm)) hdg hf) hkk

theorem wm_cV (E : EV X cc nL own ret) {y : MethodName} {bytes : ByteArray} {maxL index n : Nat} {r' : Option FieldType} {fr mc ms lc : Nat} {As : List TV} {v : Option TV} {μ' : Mem} {st0 : List TV} {r : Option Nat} {ci : Nat} {C : String} {T : u_T} {N : Nat} {u : Unit} (hL : LK own index y bytes maxL r' n) (hcl : vwCl[ci]? = some (C, T, N)) (hin : Cond.instanceMethod y ∈ GW) (hsel : Cond.selects C y y ∈ GW) (hrc : rc μ r ci = some u)
    (hM : CT (xl X) X.1 y bytes maxL r' fr mc ms lc μ (vR r :: As) v μ') (hn : As.length = n) (hst : st0 = As.reverse ++ vR r :: st) (hR : fr + 1 ≤ (xR X).frames ∧ 8 + (maxL + 11) + lc ≤ (xR X).locals) (hf : cells + mc ≤ (xR X).cells ∧ slots + ms ≤ (xR X).slots) (hsm : (st.map tcat).sum ≤ 8) (hdg : decode cc pc = .ok (.invokevirtual index, 3))
    (kk : WM X nL (pc + 3) lv (v.toList ++ st) (cells + mc) (slots + ms) μ') : WM X nL pc lv st0 cells slots μ := by
  subst hst
  obtain ⟨hcode, hini, hlink, hd⟩ := hL
  obtain ⟨G, ed, lo, p, l, e, R, s, m, args, below, meth, c, Q⟩ := X
  obtain ⟨hx, hb, hml, hown, hts, hN, hK, hO, hlo, hlk, hret⟩ := E
  obtain ⟨a, fs, rfl, hc⟩ := rcS hrc
  intro H locs ls hw hl
  have hG := gw_ws hts hcode
  have hkk : ∀ H1 locs1, WK G ed lo s μ' H1 locs1 → W p l e R s m args below meth c H1 locs1 (cells + mc) (slots + ms) Q (F0 m (pc + 3) ls ((v.map tv).toList ++ st.map tv)) := by
    intro H1 locs1 hw1
    have := kk H1 locs1 ls hw1 hl
    rw [List.map_append] at this
    cases v <;> exact this
  obtain ⟨rr, hr', cell, g1, g2, g3, -⟩ := hw.1.2 a _ hc
  have hcls := (hK.1 ci _ hcl).2
  have hrv : ∃ cellB : Cell, H[a]? = some cellB ∧ cellB.vm.isStatics = false ∧ s.vm.findClass C = some cellB.cls := ⟨cell, g1, by rw [g3]; rfl, by rw [g2]; exact hcls.1⟩
  rcases hlink with hlink | ⟨host, hlink⟩
  · exact wm_after hw (va_runV (C := C) (b := a) (As := As.map tv) (rest := st.map tv) ⟨hx, hb, hml, hown, hts⟩ hM ⟨callB_of n hts hG rfl rfl rfl (hts _ hini) (hts _ hlink) hd hR, hts _ hin, hts _ hsel⟩ ⟨pc_blind, hrv, fun U hU hW => ⟨rfl, wd_at hN hK hO hlo hw U hU hW⟩⟩ rfl (by rw [List.length_map]; exact hn) (lvsz hl) (by show (As.reverse ++ vR (some a) :: st).map tv = _; rw [List.map_append, List.map_reverse]; rfl) (lv_room (cat_sum st hsm)) hdg hf) hkk
  · exact wm_after hw (va_runVN (C := C) (b := a) (As := As.map tv) (rest := st.map tv) ⟨hx, hb, hml, hown, hts⟩ hM ⟨va_cnB n hts hG rfl rfl rfl (hN _ hlink) (hts _ hini) hd hR, hts _ hin, hts _ hsel⟩ ⟨pc_blind, hrv, fun U hU hW => ⟨rfl, wd_at hN hK hO hlo hw U hU hW⟩⟩ rfl (by rw [List.length_map]; exact hn) (lvsz hl) (by show (As.reverse ++ vR (some a) :: st).map tv = _; rw [List.map_append, List.map_reverse]; rfl) (lv_room (cat_sum st hsm)) hdg hf) hkk

theorem wm_cVs (E : EV X cc nL own ret) {y : MethodName} {bytes : ByteArray} {maxL index n : Nat} {r' : Option FieldType} {fr mc ms lc : Nat} {As : List TV} {v : Option TV} {μ' : Mem} {st0 : List TV} {r : Option Nat} {u : Unit} (hL : LK own index y bytes maxL r' n) (hin : Cond.instanceMethod y ∈ GW) (hsel : Cond.selects "java/lang/String" y y ∈ GW) (hrc : rS μ r = some u)
    (hM : CT (xl X) X.1 y bytes maxL r' fr mc ms lc μ (vR r :: As) v μ') (hn : As.length = n) (hst : st0 = As.reverse ++ vR r :: st) (hR : fr + 1 ≤ (xR X).frames ∧ 8 + (maxL + 11) + lc ≤ (xR X).locals) (hf : cells + mc ≤ (xR X).cells ∧ slots + ms ≤ (xR X).slots) (hsm : (st.map tcat).sum ≤ 8) (hdg : decode cc pc = .ok (.invokevirtual index, 3))
    (kk : WM X nL (pc + 3) lv (v.toList ++ st) (cells + mc) (slots + ms) μ') : WM X nL pc lv st0 cells slots μ := by
  subst hst
  obtain ⟨hcode, hini, hlink, hd⟩ := hL
  obtain ⟨G, ed, lo, p, l, e, R, s, m, args, below, meth, c, Q⟩ := X
  obtain ⟨hx, hb, hml, hown, hts, hN, hK, hO, hlo, hlk, hret⟩ := E
  obtain ⟨rfl, -⟩ := ifS hrc
  intro H locs ls hw hl
  have hG := gw_ws hts hcode
  have hkk : ∀ H1 locs1, WK G ed lo s μ' H1 locs1 → W p l e R s m args below meth c H1 locs1 (cells + mc) (slots + ms) Q (F0 m (pc + 3) ls ((v.map tv).toList ++ st.map tv)) := by
    intro H1 locs1 hw1
    have := kk H1 locs1 ls hw1 hl
    rw [List.map_append] at this
    cases v <;> exact this
  have hE : mS μ = ed.2.2.1 := congrArg (fun z : HD => z.2.2.1) hw.2.1
  obtain ⟨cell, g1, g2, g3, -⟩ := hO.1.2.2.2.1.kept hw.2.2.2.2.1
  have hrv : ∃ cellB : Cell, H[mS μ]? = some cellB ∧ cellB.vm.isStatics = false ∧ s.vm.findClass "java/lang/String" = some cellB.cls := by rw [hE]; exact ⟨cell, g1, g2, g3⟩
  rcases hlink with hlink | ⟨host, hlink⟩
  · exact wm_after hw (va_runV (C := "java/lang/String") (b := mS μ) (As := As.map tv) (rest := st.map tv) ⟨hx, hb, hml, hown, hts⟩ hM ⟨callB_of n hts hG rfl rfl rfl (hts _ hini) (hts _ hlink) hd hR, hts _ hin, hts _ hsel⟩ ⟨pc_blind, hrv, fun U hU hW => ⟨rfl, wd_at hN hK hO hlo hw U hU hW⟩⟩ rfl (by rw [List.length_map]; exact hn) (lvsz hl) (by show (As.reverse ++ vR (some (mS μ)) :: st).map tv = _; rw [List.map_append, List.map_reverse]; rfl) (lv_room (cat_sum st hsm)) hdg hf) hkk
  · exact wm_after hw (va_runVN (C := "java/lang/String") (b := mS μ) (As := As.map tv) (rest := st.map tv) ⟨hx, hb, hml, hown, hts⟩ hM ⟨va_cnB n hts hG rfl rfl rfl (hN _ hlink) (hts _ hini) hd hR, hts _ hin, hts _ hsel⟩ ⟨pc_blind, hrv, fun U hU hW => ⟨rfl, wd_at hN hK hO hlo hw U hU hW⟩⟩ rfl (by rw [List.length_map]; exact hn) (lvsz hl) (by show (As.reverse ++ vR (some (mS μ)) :: st).map tv = _; rw [List.map_append, List.map_reverse]; rfl) (lv_room (cat_sum st hsm)) hdg hf) hkk

theorem wm_cI (E : EV X cc nL own ret) {y : MethodName} {bytes : ByteArray} {maxL index n : Nat} {r' : Option FieldType} {fr mc ms lc : Nat} {As : List TV} {v : Option TV} {μ' : Mem} {st0 : List TV} {r : Option Nat} {ci : Nat} {u : Unit} (hL : LK own index y bytes maxL r' n) (hy1 : y.name = "<init>") (hr0 : r' = none) (hin : Cond.instanceMethod y ∈ GW) (hrc : rc μ r ci = some u)
    (hM : CT (xl X) X.1 y bytes maxL r' fr mc ms lc μ (vR r :: As) v μ') (hn : As.length = n) (hst : st0 = As.reverse ++ vR r :: st) (hR : fr + 1 ≤ (xR X).frames ∧ 8 + (maxL + 11) + lc ≤ (xR X).locals) (hf : cells + mc ≤ (xR X).cells ∧ slots + ms ≤ (xR X).slots) (hsm : (st.map tcat).sum ≤ 8) (hdg : decode cc pc = .ok (.invokespecial index, 3))
    (kk : WM X nL (pc + 3) lv (v.toList ++ st) (cells + mc) (slots + ms) μ') : WM X nL pc lv st0 cells slots μ := by
  subst hst
  obtain ⟨hcode, hini, hlink, hd⟩ := hL
  obtain ⟨G, ed, lo, p, l, e, R, s, m, args, below, meth, c, Q⟩ := X
  obtain ⟨hx, hb, hml, hown, hts, hN, hK, hO, hlo, hlk, hret⟩ := E
  obtain ⟨a, fs, rfl, hc⟩ := rcS hrc
  subst hr0
  intro H locs ls hw hl
  have hG := gw_ws hts hcode
  have hkk : ∀ H1 locs1, WK G ed lo s μ' H1 locs1 → W p l e R s m args below meth c H1 locs1 (cells + mc) (slots + ms) Q (F0 m (pc + 3) ls ((v.map tv).toList ++ st.map tv)) := by
    intro H1 locs1 hw1
    have := kk H1 locs1 ls hw1 hl
    rw [List.map_append] at this
    cases v <;> exact this
  rcases hlink with hlink | ⟨host, hlink⟩
  · exact wm_after hw (va_runI (b := a) (As := As.map tv) (rest := st.map tv) ⟨hx, hb, hml, hown, hts⟩ hM ⟨callB_of n hts hG rfl rfl rfl (hts _ hini) (hts _ hlink) hd hR, hy1, hts _ hin⟩ ⟨pc_blind, fun U hU hW => ⟨rfl, wd_at hN hK hO hlo hw U hU hW⟩⟩ rfl (by rw [List.length_map]; exact hn) (lvsz hl) (by show (As.reverse ++ vR (some a) :: st).map tv = _; rw [List.map_append, List.map_reverse]; rfl) (lv_room (cat_sum st hsm)) hdg hf) hkk
  · exact wm_after hw (va_runIN (b := a) (As := As.map tv) (rest := st.map tv) ⟨hx, hb, hml, hown, hts⟩ hM ⟨va_cnB n hts hG rfl rfl rfl (hN _ hlink) (hts _ hini) hd hR, hy1, hts _ hin⟩ ⟨pc_blind, fun U hU hW => ⟨rfl, wd_at hN hK hO hlo hw U hU hW⟩⟩ rfl (by rw [List.length_map]; exact hn) (lvsz hl) (by show (As.reverse ++ vR (some a) :: st).map tv = _; rw [List.map_append, List.map_reverse]; rfl) (lv_room (cat_sum st hsm)) hdg hf) hkk

end

def fu : Nat := 4096
def b0 {α β : Type} (a : α) (F : α → Option β) : Option β := F a
def gd {β : Type} (c : Prop) [Decidable c] (o : Option β) : Option β := if c then none else o
theorem gdS {β : Type} {c : Prop} [Decidable c] {o : Option β} {r : β} (h : gd c o = some r) : ¬ c ∧ o = some r := by
  unfold gd at h
  split at h
  · cases h
  · rename_i hc
    exact ⟨hc, h⟩
def okZ (x : Int32) : Bool := x == 0 || x == 1
theorem okZN {x : Int32} (h : ¬ ¬ okZ x = true) : narrow .boolean (.int x) = .int x := by
  have h : okZ x = true := Classical.not_not.mp h
  unfold okZ at h
  simp only [Bool.or_eq_true, beq_iff_eq] at h
  rcases h with rfl | rfl <;> rfl
def okC (x : Int32) : Bool := vp_nar .char x == x
theorem okCN {x : Int32} (h : ¬ ¬ okC x = true) : narrow .char (.int x) = .int x := by
  have h : okC x = true := Classical.not_not.mp h
  have h : vp_nar .char x = x := by
    unfold okC at h
    exact beq_iff_eq.mp h
  exact congrArg Value.int h
theorem rtM {α : Type} {x r : α} {μ μ' : Mem} (h : some (x, μ) = some (r, μ')) : μ = μ' := (Prod.mk.inj (Option.some.inj h)).2
theorem rtI {x r : Int32} {μ μ' : Mem} (h : some (x, μ) = some (r, μ')) : some (vI r) = some (vI x) := by rw [(Prod.mk.inj (Option.some.inj h)).1]
theorem rtL {x r : Int64} {μ μ' : Mem} (h : some (x, μ) = some (r, μ')) : some (vL r) = some (vL x) := by rw [(Prod.mk.inj (Option.some.inj h)).1]
theorem rtR {x r : Option Nat} {μ μ' : Mem} (h : some (x, μ) = some (r, μ')) : some (vR r) = some (vR x) := by rw [(Prod.mk.inj (Option.some.inj h)).1]
def OI (own : String) (index : Nat) : Prop := Cond.methodLink own index objectInit ∈ GW ∧ Cond.instanceMethod objectInit ∈ GW ∧ Cond.code objectInit ⟨#[0xb1]⟩ 1 none ∈ GW
section
variable {X : CX} {cc : ByteArray} {nL pc : Nat} {own : String} {ret : Option FieldType} {lv : List (Nat × TV)} {st : List TV} {cells slots : Nat} {μ : Mem} {β : Type} {res : β}
theorem wm_letI {e : Int32} {F : Int32 → Option β} (h : b0 e F = some res) (kk : ∀ z, F z = some res → WM X nL pc lv (vI z :: st) cells slots μ) : WM X nL pc lv (vI e :: st) cells slots μ := kk e h
theorem wm_letJ {e : Int64} {F : Int64 → Option β} (h : b0 e F = some res) (kk : ∀ z, F z = some res → WM X nL pc lv (vL z :: st) cells slots μ) : WM X nL pc lv (vL e :: st) cells slots μ := kk e h
theorem wm_letR {e : Option Nat} {F : Option Nat → Option β} (h : b0 e F = some res) (kk : ∀ z, F z = some res → WM X nL pc lv (vR z :: st) cells slots μ) : WM X nL pc lv (vR e :: st) cells slots μ := kk e h
theorem wm_pick {lv' : List (Nat × TV)} (ks : List Nat) (h : ks.filterMap (fun k => lv[k]?) = lv') (kk : WM X nL pc lv' st cells slots μ) : WM X nL pc lv st cells slots μ := by
  refine wm_sub (fun q hq => ?_) kk
  rw [← h] at hq
  obtain ⟨k, -, hk⟩ := List.mem_filterMap.mp hq
  exact List.mem_of_getElem? hk
theorem wm_obj (E : EV X cc nL own ret) {index : Nat} {r : Option Nat} {u : Unit} {ci : Nat} (hr : rc μ r ci = some u) (hO : OI own index) (hf : 1 ≤ (xR X).frames) (hs : 20 ≤ (xR X).locals) (hst : st.length = 0) (hdg : decode cc pc = .ok (.invokespecial index, 3)) (kk : WM X nL (pc + 3) lv st cells slots μ) : WM X nL pc lv (vR r :: st) cells slots μ := by
  obtain ⟨a, fs, rfl, hc⟩ := rcS hr
  cases st with
  | cons v t => cases hst
  | nil =>
    obtain ⟨G, ed, lo, p, l, e, R, s, m, args, below, meth, c, Q⟩ := X
    obtain ⟨hx, hb, hml, hown, hts, hN, hK, hO', hlo, hlk, hret⟩ := E
    obtain ⟨o1, o2, o3⟩ := hO
    intro H locs ls hw hl
    refine W.objInit hx hb hown (hts _ o1) (hts _ o2) (hts _ o3) rfl (by rw [hml]; exact hl.1) rfl hdg hf (Nat.le_trans (Nat.le_of_ble_eq_true rfl) hs) ?_
    exact kk H locs ls hw hl
theorem wm_gets (E : EV X cc nL own ret) {index : Nat} (hl : Cond.fieldLink own index "java/util/ArrayList" "DEFAULTCAPACITY_EMPTY_ELEMENTDATA" "[Ljava/lang/Object;" ∈ GW) (hdg : decode cc pc = .ok (.getstatic index, 3)) (kk : WM X nL (pc + 3) lv (vR (some (mD μ)) :: st) cells slots μ) : WM X nL pc lv st cells slots μ := by
  obtain ⟨G, ed, lo, p, l, e, R, s, m, args, below, meth, c, Q⟩ := X
  obtain ⟨hx, hb, hml, hown, hts, hN, hK, hO, hlo, hlk, hret⟩ := E
  intro H locs ls hw hl'
  have hE : mD μ = ed.1 := congrArg Prod.fst hw.2.1
  refine va_gets hx hb hO.1.1 hw.2.2.2 hown (hts _ hl) (fun _ h => h) hdg ?_
  have := kk H locs ls hw hl'
  rw [hE] at this
  exact this
end
