def acI (μ : Mem) (r0 : Option Nat) (sp : Int32) (r1 : Option Nat) (dp n : Int32) (t : Nat) : Option Mem := match aC μ r0 t, aC μ r1 t with
  | some (_, n0, .inl f), some (a1, n1, .inl g) => if sp < 0 ∨ dp < 0 ∨ n < 0 ∨ n0 < sp.toNatClampNeg + n.toNatClampNeg ∨ n1 < dp.toNatClampNeg + n.toNatClampNeg ∨ a1 < mW μ then none else some (m_set μ a1 (.inl (t, n1, .inl (va_cpy f g sp.toNatClampNeg dp.toNatClampNeg n.toNatClampNeg))))
  | _, _ => none
theorem acIS {μ μ2 : Mem} {r0 r1 : Option Nat} {sp dp n : Int32} {t : Nat} (h : acI μ r0 sp r1 dp n t = some μ2) : ∃ a0 n0 f a1 n1 g, r0 = some a0 ∧ r1 = some a1 ∧ mF μ a0 = some (.inl (t, n0, .inl f)) ∧ mF μ a1 = some (.inl (t, n1, .inl g)) ∧ ¬ sp < 0 ∧ ¬ dp < 0 ∧ ¬ n < 0 ∧ sp.toNatClampNeg + n.toNatClampNeg ≤ n0 ∧ dp.toNatClampNeg + n.toNatClampNeg ≤ n1 ∧ mW μ ≤ a1 ∧ μ2 = m_set μ a1 (.inl (t, n1, .inl (va_cpy f g sp.toNatClampNeg dp.toNatClampNeg n.toNatClampNeg))) := by
  unfold acI at h
  split at h
  · rename_i a0 n0 f a1 n1 g h0 h1
    obtain ⟨q1, q2⟩ := aCS h0
    obtain ⟨q3, q4⟩ := aCS h1
    split at h
    · cases h
    · rename_i hn
      cases h
      simp only [not_or, Nat.not_lt] at hn
      exact ⟨a0, n0, f, a1, n1, g, q1, q3, q2, q4, hn.1, hn.2.1, hn.2.2.1, hn.2.2.2.1, hn.2.2.2.2.1, hn.2.2.2.2.2, rfl⟩
  · cases h
def acR (μ : Mem) (r0 : Option Nat) (sp : Int32) (r1 : Option Nat) (dp n : Int32) (t : Nat) (cs : List Nat) : Option Mem := match aC μ r0 t, aC μ r1 t with
  | some (_, n0, .inr (.inr (.inr (.inr f)))), some (a1, n1, .inr (.inr (.inr (.inr g)))) => if sp < 0 ∨ dp < 0 ∨ n < 0 ∨ n0 < sp.toNatClampNeg + n.toNatClampNeg ∨ n1 < dp.toNatClampNeg + n.toNatClampNeg ∨ a1 < mW μ ∨ ¬ (List.range n.toNatClampNeg).all (fun i => okS μ cs (f (sp.toNatClampNeg + i))) = true then none else some (m_set μ a1 (.inl (t, n1, .inr (.inr (.inr (.inr (va_cpy f g sp.toNatClampNeg dp.toNatClampNeg n.toNatClampNeg)))))))
  | _, _ => none
theorem acRS {μ μ2 : Mem} {r0 r1 : Option Nat} {sp dp n : Int32} {t : Nat} {cs : List Nat} (h : acR μ r0 sp r1 dp n t cs = some μ2) : ∃ a0 n0 f a1 n1 g, r0 = some a0 ∧ r1 = some a1 ∧ mF μ a0 = some (.inl (t, n0, .inr (.inr (.inr (.inr f))))) ∧ mF μ a1 = some (.inl (t, n1, .inr (.inr (.inr (.inr g))))) ∧ ¬ sp < 0 ∧ ¬ dp < 0 ∧ ¬ n < 0 ∧ sp.toNatClampNeg + n.toNatClampNeg ≤ n0 ∧ dp.toNatClampNeg + n.toNatClampNeg ≤ n1 ∧ mW μ ≤ a1 ∧ (∀ i, i < n.toNatClampNeg → okS μ cs (f (sp.toNatClampNeg + i)) = true) ∧ μ2 = m_set μ a1 (.inl (t, n1, .inr (.inr (.inr (.inr (va_cpy f g sp.toNatClampNeg dp.toNatClampNeg n.toNatClampNeg)))))) := by
  unfold acR at h
  split at h
  · rename_i a0 n0 f a1 n1 g h0 h1
    obtain ⟨q1, q2⟩ := aCS h0
    obtain ⟨q3, q4⟩ := aCS h1
    split at h
    · cases h
    · rename_i hn
      cases h
      simp only [not_or, Nat.not_lt, Classical.not_not] at hn
      exact ⟨a0, n0, f, a1, n1, g, q1, q3, q2, q4, hn.1, hn.2.1, hn.2.2.1, hn.2.2.2.1, hn.2.2.2.2.1, hn.2.2.2.2.2.1, fun i hi => List.all_eq_true.mp hn.2.2.2.2.2.2 i (List.mem_range.mpr hi), rfl⟩
  · cases h
def YC (own : String) (index : Nat) : Prop := Cond.methodLink own index arraycopyName ∈ GW ∧ Cond.native arraycopyName ∈ GW ∧ Cond.static arraycopyName ∈ GW ∧ Cond.initialized "java/lang/System" ∈ GW
def getCN : MethodName := ⟨"java/lang/Object", "getClass", "()Ljava/lang/Class;"⟩
def GC (own : String) (index : Nat) : Prop := Cond.methodLink own index getCN ∈ GW ∧ Cond.declares getCN ∈ NW ∧ Cond.selects "[Ljava/lang/Object;" getCN getCN ∈ GW ∧ Cond.instanceMethod getCN ∈ GW ∧ Cond.native getCN ∈ GW
theorem i32nn (z : Int32) (hz : ¬ z < 0) : z.toInt = (z.toNatClampNeg : Int) := by
  have hz0 : (0 : Int) ≤ z.toInt := by
    have := Int32.not_lt.mp hz
    simpa using Int32.le_iff_toInt_le.mp this
  show z.toInt = ((z.toInt.toNat : Nat) : Int)
  omega
section
variable {X : CX} {cc : ByteArray} {nL pc : Nat} {own : String} {ret : Option FieldType} {lv : List (Nat × TV)} {st : List TV} {cells slots : Nat} {μ : Mem} {β : Type} {res : β}
theorem wm_acI (E : EV X cc nL own ret) {index t : Nat} {r0 r1 : Option Nat} {sp dp n : Int32} {F : Mem → Option β} (hy : YC own index) (ht : aty[t]? = some .int) (h : b1 (acI μ r0 sp r1 dp n t) F = some res) (hf : 1 ≤ (xR X).frames) (hs : nativeFrameWords "java/lang/System" "arraycopy" 5 + 19 ≤ (xR X).locals) (hsm : (st.map tcat).sum ≤ 8) (hdg : decode cc pc = .ok (.invokestatic index, 3)) (kk : ∀ μ2, F μ2 = some res → WM X nL (pc + 3) lv st cells slots μ2) : WM X nL pc lv (vI n :: vI dp :: vR r1 :: vI sp :: vR r0 :: st) cells slots μ := by
  obtain ⟨μ2, e1, e2⟩ := b1S h
  have kk := kk μ2 e2
  obtain ⟨a0, n0, f, a, n1, g, rfl, rfl, hc0, hc1, h1, h2, h3, h4, h5, ha, rfl⟩ := acIS e1
  obtain ⟨G, ed, lo, p, l, e, R, s, m, args, below, meth, c, Q⟩ := X
  obtain ⟨hx, hb, hml, hown, hts, hN, hK, hO, hlo, hlk, hret⟩ := E
  obtain ⟨y1, y2, y3, y4⟩ := hy
  intro H locs ls hw hl
  obtain ⟨hM, hE, hW, hS⟩ := hw
  intro T hT X
  have hc0 : H[a0]? = some (vp_cell (G.2 t) (n0, .inl f)) := hM.2 a0 _ hc0
  have hc1 : H[a]? = some (vp_cell (G.2 t) (n1, .inl g)) := hM.2 a _ hc1
  obtain ⟨-, k0, hk0, cm0, hkk0⟩ := (hK.2 t _ ht).arr n0 (fun j => .int (f j))
  obtain ⟨-, k1, hk1, cm1, hkk1⟩ := (hK.2 t _ ht).arr n1 (fun j => .int (g j))
  have hcs := cat_sum st hsm
  obtain ⟨vm', X', step⟩ := X.arraycopy hx hown (hts _ y1) (hts _ y2) (hts _ y3) (hts _ y4) (src := a0) (dst := a) (cs := vp_cell (G.2 t) (n0, .inl f)) (cd := vp_cell (G.2 t) (n1, .inl g)) (srcPos := sp) (destPos := dp) (n := n) (by rw [hT]; exact hc0) (by rw [hT]; exact hc1)
    (fun _ h => by cases h) (fun _ h => by cases h) (fun h => by cases h) (fun h => by cases h) hk0 hk1 hkk0 hkk1 rfl h1 h2 h3
    (by rw [i32nn sp h1, i32nn n h3]; show ¬ _ > ((arrV (G.2 t) n0 (fun j => .int (f j))).slots.size : Int); rw [arrV_size]; omega)
    (by rw [i32nn dp h2, i32nn n h3]; show ¬ _ > ((arrV (G.2 t) n1 (fun j => .int (g j))).slots.size : Int); rw [arrV_size]; omega)
    (fun vm₁ _ i hi => by
      have e : (vp_cell (G.2 t) (n0, .inl f)).slots.getD (sp.toNatClampNeg + i) .null = .int (f (sp.toNatClampNeg + i)) := by
        show (arrV (G.2 t) n0 (fun j => .int (f j))).slots.getD _ _ = _
        rw [Array.getD_eq_getD_getElem?, arrV_read _ _ (by omega)]
        rfl
      rw [e]
      exact ⟨rfl, trivial⟩)
    (g := F0 m pc ls (.int n :: .int dp :: .ref a :: .int sp :: .ref a0 :: st.map tv)) rfl (by rw [hml]; exact hl.1) (rest := st.map tv) rfl (by rw [hb]; exact hdg) hf (by show 2 * 0 + _ + _ ≤ _; have hs' : nativeFrameWords "java/lang/System" "arraycopy" 5 + 19 ≤ R.locals := hs; omega)
  have e1 : copied (vp_cell (G.2 t) (n0, .inl f)) (vp_cell (G.2 t) (n1, .inl g)) sp dp n = vp_cell (G.2 t) (n1, .inl (va_cpy f g sp.toNatClampNeg dp.toNatClampNeg n.toNatClampNeg)) := va_copied (fun z => .int z) (G.2 t) (G.2 t) f g h4
  rw [e1] at X' step
  have hlt : a < H.size := (Array.getElem?_eq_some_iff.mp hc1).1
  have oq : ∀ q : Nat, q ≠ a → (H.setIfInBounds a (vp_cell (G.2 t) (n1, .inl (va_cpy f g sp.toNatClampNeg dp.toNatClampNeg n.toNatClampNeg))))[q]? = H[q]? := fun q hq => by simp [Array.getElem?_setIfInBounds, Ne.symm hq]
  obtain ⟨t9, a1, b1⟩ := kk _ _ ls ⟨hM.set (e := .inl (t, n1, .inl (va_cpy f g sp.toNatClampNeg dp.toNatClampNeg n.toNatClampNeg))) (show (H.setIfInBounds a _)[a]? = some _ by simp [Array.getElem?_setIfInBounds, hlt]) (by simp) oq, hE, hW, ⟨by simp; exact hS.1, fun q g1 g2 => by
      rw [oq q (fun e => g2 (by rw [e, ← hW]; exact ha))]
      exact hS.2.1 q g1 g2, fun q hq => by
      rcases List.mem_append.mp hq with h | h
      · exact hS.2.2 q h
      · obtain ⟨z, -, hz⟩ := List.mem_map.mp h
        rw [← hz, ← hW]
        exact ha⟩⟩ hl _ (by rw [← hT]; rfl) X'
  exact ⟨t9, step t9 a1, b1⟩
theorem wm_acR (E : EV X cc nL own ret) {index t : Nat} {C : String} {cs : List Nat} {r0 r1 : Option Nat} {sp dp n : Int32} {F : Mem → Option β} (hy : YC own index) (ht : aty[t]? = some (.object C)) (hcs : ∀ ci ∈ cs, AS C ci) (h : b1 (acR μ r0 sp r1 dp n t cs) F = some res) (hf : 1 ≤ (xR X).frames) (hs : nativeFrameWords "java/lang/System" "arraycopy" 5 + 19 ≤ (xR X).locals) (hsm : (st.map tcat).sum ≤ 8) (hdg : decode cc pc = .ok (.invokestatic index, 3)) (kk : ∀ μ2, F μ2 = some res → WM X nL (pc + 3) lv st cells slots μ2) : WM X nL pc lv (vI n :: vI dp :: vR r1 :: vI sp :: vR r0 :: st) cells slots μ := by
  obtain ⟨μ2, e1, e2⟩ := b1S h
  have kk := kk μ2 e2
  obtain ⟨a0, n0, f, a, n1, g, rfl, rfl, hc0, hc1, h1, h2, h3, h4, h5, ha, hok, rfl⟩ := acRS e1
  obtain ⟨G, ed, lo, p, l, e, R, s, m, args, below, meth, c, Q⟩ := X
  obtain ⟨hx, hb, hml, hown, hts, hN, hK, hO, hlo, hlk, hret⟩ := E
  obtain ⟨y1, y2, y3, y4⟩ := hy
  intro H locs ls hw hl
  obtain ⟨hM, hE, hW, hS⟩ := hw
  intro T hT X
  have hc0 : H[a0]? = some (vp_cell (G.2 t) (n0, .inr (.inr (.inr (.inr f))))) := hM.2 a0 _ hc0
  have hc1 : H[a]? = some (vp_cell (G.2 t) (n1, .inr (.inr (.inr (.inr g))))) := hM.2 a _ hc1
  obtain ⟨-, k0, hk0, cm0, hkk0⟩ := (hK.2 t _ ht).arr n0 (fun j => va_rf (f j))
  obtain ⟨-, k1, hk1, cm1, hkk1⟩ := (hK.2 t _ ht).arr n1 (fun j => va_rf (g j))
  have hsum := cat_sum st hsm
  obtain ⟨vm', X', step⟩ := X.arraycopy hx hown (hts _ y1) (hts _ y2) (hts _ y3) (hts _ y4) (src := a0) (dst := a) (cs := vp_cell (G.2 t) (n0, .inr (.inr (.inr (.inr f))))) (cd := vp_cell (G.2 t) (n1, .inr (.inr (.inr (.inr g))))) (srcPos := sp) (destPos := dp) (n := n) (by rw [hT]; exact hc0) (by rw [hT]; exact hc1)
    (fun _ h => by cases h) (fun _ h => by cases h) (fun h => by cases h) (fun h => by cases h) hk0 hk1 hkk0 hkk1 rfl h1 h2 h3
    (by rw [i32nn sp h1, i32nn n h3]; show ¬ _ > ((arrV (G.2 t) n0 (fun j => va_rf (f j))).slots.size : Int); rw [arrV_size]; omega)
    (by rw [i32nn dp h2, i32nn n h3]; show ¬ _ > ((arrV (G.2 t) n1 (fun j => va_rf (g j))).slots.size : Int); rw [arrV_size]; omega)
    (fun vm₁ hal i hi => by
      have e : (vp_cell (G.2 t) (n0, .inr (.inr (.inr (.inr f))))).slots.getD (sp.toNatClampNeg + i) .null = va_rf (f (sp.toNatClampNeg + i)) := by
        show (arrV (G.2 t) n0 (fun j => va_rf (f j))).slots.getD _ _ = _
        rw [Array.getD_eq_getD_getElem?, arrV_read _ _ (by omega)]
        rfl
      rw [e]
      have hk9 := hok i hi
      cases hy : f (sp.toNatClampNeg + i) with
      | none => exact ⟨rfl, trivial⟩
      | some y =>
        rw [hy] at hk9
        unfold okS at hk9
        split at hk9
        · rename_i hb9; cases hb9
        · rename_i v' hv'
          cases hv'
          split at hk9
          · rename_i ov hov
            obtain ⟨D, T9, N, hcl, hD⟩ := hcs ov.1 (List.contains_iff_mem.mp hk9)
            obtain ⟨r', hr', cellV, g1, g2, g3, -⟩ := hM.2 y _ hov
            have hcls := (hK.1 ov.1 _ hcl).2
            obtain ⟨kA, comp, k1', k2', k3', k4'⟩ := hK.2 t _ ht
            have k4' : s.vm.findClass C = some comp := k4'
            cases hk1.symm.trans k1'
            cases hkk1.symm.trans k2'
            obtain ⟨kE, hkE, -⟩ := Vm.findClass_spec k4'
            obtain ⟨kC, hkC, -⟩ := hcls.2
            have has : s.vm.assignable (G.1.1 ov.1) cm1 = true := by
              rcases hD with rfl | hD
              · have h9 : cm1 = G.1.1 ov.1 := Option.some.inj (k4'.symm.trans hcls.1)
                rw [h9]
                exact va_assign hcls
              · obtain ⟨c0, t1, f1, f2, f3⟩ := Cond.castable_spec (va_Nw.use (A := args) rfl (hN _ hD))
                cases hcls.1.symm.trans f1
                cases k4'.symm.trans f2
                exact f3
            obtain ⟨kC', hkC', -⟩ := hal.2.2 _ _ hkC
            obtain ⟨kE', hkE', -⟩ := hal.2.2 _ _ hkE
            refine ⟨rfl, cellV, (show T.heap[y]? = some cellV by rw [hT]; exact g1), (fun q h => by rw [g3] at h; cases h), ⟨kC', by rw [g2]; exact hkC'⟩, ⟨kE', hkE'⟩, ?_⟩
            show vm₁.assignable _ _ = true
            rw [hal.assignable, g2]
            exact has
          · cases hk9)
    (g := F0 m pc ls (.int n :: .int dp :: .ref a :: .int sp :: .ref a0 :: st.map tv)) rfl (by rw [hml]; exact hl.1) (rest := st.map tv) rfl (by rw [hb]; exact hdg) hf (by show 2 * 0 + _ + _ ≤ _; have hs' : nativeFrameWords "java/lang/System" "arraycopy" 5 + 19 ≤ R.locals := hs; omega)
  have e1 : copied (vp_cell (G.2 t) (n0, .inr (.inr (.inr (.inr f))))) (vp_cell (G.2 t) (n1, .inr (.inr (.inr (.inr g))))) sp dp n = vp_cell (G.2 t) (n1, .inr (.inr (.inr (.inr (va_cpy f g sp.toNatClampNeg dp.toNatClampNeg n.toNatClampNeg))))) := va_copied (fun z => va_rf z) (G.2 t) (G.2 t) f g h4
  rw [e1] at X' step
  have hlt : a < H.size := (Array.getElem?_eq_some_iff.mp hc1).1
  have oq : ∀ q : Nat, q ≠ a → (H.setIfInBounds a (vp_cell (G.2 t) (n1, .inr (.inr (.inr (.inr (va_cpy f g sp.toNatClampNeg dp.toNatClampNeg n.toNatClampNeg)))))))[q]? = H[q]? := fun q hq => by simp [Array.getElem?_setIfInBounds, Ne.symm hq]
  obtain ⟨t9, a1, b1⟩ := kk _ _ ls ⟨hM.set (e := .inl (t, n1, .inr (.inr (.inr (.inr (va_cpy f g sp.toNatClampNeg dp.toNatClampNeg n.toNatClampNeg)))))) (show (H.setIfInBounds a _)[a]? = some _ by simp [Array.getElem?_setIfInBounds, hlt]) (by simp) oq, hE, hW, ⟨by simp; exact hS.1, fun q g1 g2 => by
      rw [oq q (fun e => g2 (by rw [e, ← hW]; exact ha))]
      exact hS.2.1 q g1 g2, fun q hq => by
      rcases List.mem_append.mp hq with h | h
      · exact hS.2.2 q h
      · obtain ⟨z, -, hz⟩ := List.mem_map.mp h
        rw [← hz, ← hW]
        exact ha⟩⟩ hl _ (by rw [← hT]; rfl) X'
  exact ⟨t9, step t9 a1, b1⟩
theorem wm_ldM (E : EV X cc nL own ret) {index : Nat} (hl : Cond.classLink own index "[Ljava/lang/Object;" ∈ GW) (hdg : decode cc pc = .ok (.ldc index, 2)) (kk : WM X nL (pc + 2) lv (vR (some (mC μ)) :: st) cells slots μ) : WM X nL pc lv st cells slots μ := by
  obtain ⟨G, ed, lo, p, l, e, R, s, m, args, below, meth, c, Q⟩ := X
  obtain ⟨hx, hb, hml, hown, hts, hN, hK, hO, hlo, hlk, hret⟩ := E
  intro H locs ls hw hl'
  have hE : mC μ = ed.2.1 := congrArg (fun z : HD => z.2.1) hw.2.1
  refine va_ldcM hx hb hown (hts _ hl) hO.1.2.2.1 hdg ?_
  have := kk H locs ls hw hl'
  rw [hE] at this
  exact this
theorem wm_getC (E : EV X cc nL own ret) {index : Nat} {r : Option Nat} {u : Nat × vp_A} (hg : GC own index) (hr : aC μ r 4 = some u) (hf : 1 ≤ (xR X).frames) (hs : 22 ≤ (xR X).locals) (hsm : (st.map tcat).sum ≤ 8) (hdg : decode cc pc = .ok (.invokevirtual index, 3)) (kk : WM X nL (pc + 3) lv (vR (some (mC μ)) :: st) cells slots μ) : WM X nL pc lv (vR r :: st) cells slots μ := by
  obtain ⟨a, x⟩ := u
  obtain ⟨rfl, hc⟩ := aCS hr
  obtain ⟨G, ed, lo, p, l, e, R, s, m, args, below, meth, c, Q⟩ := X
  obtain ⟨hx, hb, hml, hown, hts, hN, hK, hO, hlo, hlk, hret⟩ := E
  obtain ⟨g1, g2, g3, g4, g5⟩ := hg
  intro H locs ls hw hl'
  have hE : mC μ = ed.2.1 := congrArg (fun z : HD => z.2.1) hw.2.1
  have hcell := hw.1.2 a _ hc
  obtain ⟨kA, comp, k1, k2, k3, k4⟩ := hK.2 4 (.object "java/lang/Object") rfl
  have hsum := cat_sum st hsm
  have hs' : 22 ≤ R.locals := hs
  refine va_getC (C := "[Ljava/lang/Object;") hx hb (by rw [hml]; exact hl'.1.symm) hown (hts _ g1) (va_Nw.use rfl (hN _ g2)) (hts _ g3) (hts _ g4) (hts _ g5) hO.1.2.2.1 ⟨vp_cell (G.2 4) x, hcell, ?_, ?_⟩ hf (by omega) hdg ?_
  · obtain ⟨n, f⟩ := x
    match f with
    | .inl _ => rfl
    | .inr (.inl _) => rfl
    | .inr (.inr (.inl _)) => rfl
    | .inr (.inr (.inr (.inl _))) => rfl
    | .inr (.inr (.inr (.inr _))) => rfl
  · have hcl : (vp_cell (G.2 4) x).cls = G.2 4 := by
      obtain ⟨n, f⟩ := x
      match f with
      | .inl _ => rfl
      | .inr (.inl _) => rfl
      | .inr (.inr (.inl _)) => rfl
      | .inr (.inr (.inr (.inl _))) => rfl
      | .inr (.inr (.inr (.inr _))) => rfl
    rw [hcl]
    exact k3
  · have := kk H locs ls hw hl'
    rw [hE] at this
    exact this
end
