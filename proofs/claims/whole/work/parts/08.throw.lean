/-! throws -/
def m_grow (μ : Mem) (N : Nat) : Mem := (mE μ, mW μ, N, mF μ)
def m_up (μ : Mem) : Mem := (mE μ, mN μ, mN μ, mF μ)
def LF (l : Launch) : Prop := ∀ e : Env, l.admits e → e.platform.stackTraces = false
/-- the method throws an E; nothing that was there has changed -/
def QX (G : GG) (μ : Mem) (E : String) (mc ms : Nat) : Array Value → State → Outcome → State → Prop := fun _ st oc t =>
  (∃ (a N : Nat) (ce : Cell), oc = .threw a ∧ mN μ ≤ N ∧ WD G (m_grow μ N) t ∧ t.heap[a]? = some ce ∧ ce.vm.isStatics = false ∧ t.vm.findClass E = some ce.cls ∧ va_F (fun q => mW μ ≤ q) st t) ∧ ∃ L, Jvm.Free.FrameEndT st oc t L mc ms ∧ ∀ q ∈ L, mW μ ≤ q.base
abbrev CZ (l : Launch) (G : GG) (y : MethodName) (cc : ByteArray) (maxL : Nat) (ret : Option FieldType) (fr mc ms lc : Nat) (μ : Mem) (av : List TV) (E : String) : Prop :=
  MetFree l y (headSpec (Cond.code y cc maxL ret :: GW) { frames := fr, cells := mc, slots := ms, locals := lc }) (PC G μ av) (fun _ _ _ _ _ => True) (QX G μ E mc ms)
def RX (X : CX) (mc ms : Nat) (μ : Mem) (E : String) : Prop := match X with
  | (G, ed, lo, p, l, e, R, s, m, args, below, meth, c, Q) => lo = mN μ ∧ LF l ∧ c.exceptionTable.isEmpty = true ∧ WD G μ s ∧ ∀ t o, t.status = .running → Ended t below o → QX G μ E mc ms args s o t → Q t
/-- the end of a method that may throw -/
def RQ2 (X : CX) (mc ms : Nat) (μ0 : Mem) (res : String ⊕ Option TV) (μ' : Mem) : Prop := match res with
  | .inl E => ∃ μs, RX X mc ms μs E
  | .inr v => RQ X mc ms μ0 v μ'
theorem wm_metX {l : Launch} {G : GG} {y : MethodName} {cc : ByteArray} {maxL : Nat} {ret : Option FieldType} {fr mc ms lc : Nat} {μ : Mem} {av : List TV} {Ex : String} (hl : LF l) (hy : plainFor y = true) (hn : (av.map tcat).sum ≤ maxL) {lv : List (Nat × TV)} (hlv : tv_args 0 av = lv)
    (k : ∀ X : CX, EV X cc maxL y.cls ret → RX X mc ms μ Ex → xR X = { frames := fr, cells := mc, slots := ms, locals := lc } → X.2.2.2.2.2.2.2.2.2.2.2.1.name = y.name → WM X maxL 0 lv [] 0 0 (m_up μ)) : CZ l G y cc maxL ret fr mc ms lc μ av Ex := by
  refine MetFree.of_bodySF (code := cc) (maxLocals := maxL) (ret := ret) hy ?_ ?_
  · intro args s m h hn
    obtain ⟨meth, c, h1, h2, h3, h4, h5, h6, -, -⟩ := Cond.code_spec hn (atoms_spec (ws := Cond.code y cc maxL ret :: GW) h _ List.mem_cons_self)
    exact ⟨meth, c, h1, h2, h3, h4, h5, h6⟩
  · intro p e s m args below meth c s₁ B hml hP _
    have hh0 : s₁.heap = s.heap := by rw [B.state]; rfl
    obtain ⟨rfl, hWD⟩ := hP
    obtain ⟨hN, hK, hO, hlo, hM⟩ := id hWD
    have hts := atoms_spec (ws := Cond.code y cc maxL ret :: GW) B.pre
    obtain ⟨meth', c', g1, g2, g3, g4, g5, g6, g7, g8⟩ := Cond.code_spec B.named (hts _ List.mem_cons_self)
    cases B.method.symm.trans g1
    cases (Stand.of_body B).code.symm.trans g2
    have hlo2 : mW μ ≤ mN μ := by rw [← hM.1]; exact hlo
    have K := k (G, mE μ, mN μ, p, l, e, { frames := fr, cells := mc, slots := ms, locals := lc }, s, m, (av.map tv).toArray, below, meth, c, fun t => ∃ o, t.status = .running ∧ Ended t below o ∧ QX G μ Ex mc ms (av.map tv).toArray s o t)
      ⟨B.exec, B.bytes, hml, findClass_of_methodNamed B.named, fun w hw => hts w (List.mem_cons_of_mem _ hw), hN, hK, hO.up hlo2, by rw [hM.1]; exact Nat.le_refl _, B.notSynchronized, B.returns⟩ ⟨rfl, hl, g7, hWD, fun t o h1 h2 h3 => ⟨o, h1, h2, h3⟩⟩ rfl
      (name_of_methodNamed B.named B.method).1
    rw [lg_entry_eq]
    have hl := lv_entry (av.map tv) (n := maxL) (by rw [tv_len]; exact hn)
    rw [tv_args_eq, hlv] at hl
    obtain ⟨t, a1, o, b1, b2, b3⟩ := K s.heap [] _ ⟨hM, rfl, rfl, va_S.rf⟩ hl s₁ hh0 (Stand.of_body B)
    exact ⟨t, o, a1, b1, b2, b3⟩
theorem sbn_old {s U : State} {L : List Loc} {k n : Nat} (h : s.sameButNew U L k n) (hL : ∀ x ∈ L, s.heap.size ≤ x.base) : ∀ a : Nat, a < s.heap.size → U.heap[a]? = s.heap[a]? := by
  intro a ha
  obtain ⟨c', h1, h2, h3, h4⟩ := h.2.2.2.2.2 a s.heap[a] (Array.getElem?_eq_getElem ha)
  have e : c'.slots = s.heap[a].slots := Array.ext_getElem? (fun i => h4 i (fun hm => by
    have := hL _ hm
    exact absurd ha (Nat.not_lt.mpr this)))
  rw [h1, Array.getElem?_eq_getElem ha, h2, e]
/-- the words of a throw -/
def OW (own : String) (ic : Nat) (cls : String) (names : List String) : Prop := ∀ a ∈ Bundle.ownAtoms own ic cls names, a ∈ GW ∨ a ∈ NW ∨ a = .isRef (.static "java/lang/Throwable" "UNASSIGNED_STACK" "[Ljava/lang/StackTraceElement;") ∨ a = .isRef (.static "java/lang/Throwable" "SUPPRESSED_SENTINEL" "Ljava/util/List;") ∨ a = .laysStatic "java/lang/Throwable" "UNASSIGNED_STACK" "[Ljava/lang/StackTraceElement;" ∨ a = .laysStatic "java/lang/Throwable" "SUPPRESSED_SENTINEL" "Ljava/util/List;"
def owOK (a : Cond) : Bool := (decide (a ∈ lw_tbl) && (goodWord a || (nwOK a && a.onTables))) || decide (a = .isRef (.static "java/lang/Throwable" "UNASSIGNED_STACK" "[Ljava/lang/StackTraceElement;")) || decide (a = .isRef (.static "java/lang/Throwable" "SUPPRESSED_SENTINEL" "Ljava/util/List;")) || decide (a = .laysStatic "java/lang/Throwable" "UNASSIGNED_STACK" "[Ljava/lang/StackTraceElement;") || decide (a = .laysStatic "java/lang/Throwable" "SUPPRESSED_SENTINEL" "Ljava/util/List;")
def nwT (a : Cond) : Bool := nwOK a && a.onTables
theorem OW_of {own : String} {ic : Nat} {cls : String} {names : List String} (h : (Bundle.ownAtoms own ic cls names).all owOK = true) : ∀ a ∈ Bundle.ownAtoms own ic cls names, a ∈ GW ∨ (a ∈ NW ∧ a.onTables = true) ∨ a = .isRef (.static "java/lang/Throwable" "UNASSIGNED_STACK" "[Ljava/lang/StackTraceElement;") ∨ a = .isRef (.static "java/lang/Throwable" "SUPPRESSED_SENTINEL" "Ljava/util/List;") ∨ a = .laysStatic "java/lang/Throwable" "UNASSIGNED_STACK" "[Ljava/lang/StackTraceElement;" ∨ a = .laysStatic "java/lang/Throwable" "SUPPRESSED_SENTINEL" "Ljava/util/List;" := by
  intro a ha
  have h1 := List.all_eq_true.mp h a ha
  simp only [owOK, Bool.or_eq_true, Bool.and_eq_true, decide_eq_true_eq] at h1
  rcases h1 with (((⟨h1, h2 | ⟨h2, h3⟩⟩ | h1) | h1) | h1) | h1
  · exact Or.inl (GW_of h1 h2)
  · exact Or.inr (Or.inl ⟨NW_of h1 h2, h3⟩)
  · exact Or.inr (Or.inr (Or.inl h1))
  · exact Or.inr (Or.inr (Or.inr (Or.inl h1)))
  · exact Or.inr (Or.inr (Or.inr (Or.inr (Or.inl h1))))
  · exact Or.inr (Or.inr (Or.inr (Or.inr (Or.inr h1))))
def TF (own : String) (iN iS iC : Nat) (cls : String) (names : List String) : Prop := Cond.classLink own iN cls ∈ GW ∧ Cond.instantiable cls 6 ∈ GW ∧ Cond.initialized cls ∈ GW ∧ (∃ tx, (own, iS, tx) ∈ srefs) ∧ Bundle.fit cls = true ∧ (∀ n ∈ names, Bundle.fit n = true) ∧ (Bundle.ownAtoms own iC cls names).all owOK = true
section
variable {X : CX} {cc : ByteArray} {nL pc : Nat} {own : String} {ret : Option FieldType} {lv : List (Nat × TV)} {st : List TV} {cells slots : Nat} {μ : Mem} {β : Type} {res : β}
theorem wm_throw (E : EV X cc nL own ret) {iN iS iC mc ms ln : Nat} {cls : String} {names : List String} {μs : Mem} (hT : TF own iN iS iC cls names) (hX : RX X mc ms μs cls) (hc : cells + 1 ≤ (xR X).cells ∧ cells + 1 ≤ mc) (hs : slots + 6 ≤ (xR X).slots ∧ slots + 6 ≤ ms) (hf : names.length + 3 < (xR X).frames) (hlc : 13 * (names.length + 1) + 60 ≤ (xR X).locals) (hsm : (st.map tcat).sum ≤ 8)
    (d0 : decode cc pc = .ok (.new iN, 3)) (d1 : decode cc (pc + 3) = .ok (.dup, 1)) (d2 : (ln = 2 ∧ decode cc (pc + 4) = .ok (.ldc iS, 2)) ∨ (ln = 3 ∧ decode cc (pc + 4) = .ok (.ldc_w iS, 3))) (d3 : decode cc (pc + 4 + ln) = .ok (.invokespecial iC, 3)) (d4 : decode cc (pc + 4 + ln + 3) = .ok (.athrow, 1)) : WM X nL pc lv st cells slots μ := by
  obtain ⟨G, ed, lo, p, l, e, R, s, m, args, below, meth, c, Q⟩ := X
  obtain ⟨hx, hb, hml, hown, hts, hN, hK, hO, hlo, hlk, hret⟩ := E
  obtain ⟨rfl, hl9, htab, hWD, hQ⟩ := hX
  obtain ⟨t1, t2, t3, ⟨tx, t4⟩, t5, t6, t7⟩ := hT
  intro H locs ls hw hl
  obtain ⟨hM, hE, hW, hS⟩ := hw
  obtain ⟨cX, kX, hfc, hkX, hkind, -⟩ := Cond.instantiable_spec (hts _ t2)
  obtain ⟨a9, hvk⟩ := hO.2.2.1 _ t4
  have hsz : s.heap.size = mN μs := hWD.2.2.2.2.1
  have hsum := cat_sum st hsm
  have hlc' : 13 * (names.length + 1) + 60 ≤ R.locals := hlc
  refine W.newcK hx hb hown (hts _ t1) (hts _ t2) (hts _ t3) rfl d0 hc.1 hs.1 hfc rfl fun H1 kC hkC e1 z1 o1 => ?_
  refine lv_dup hx hb d1 rfl ?_
  have kk : W p l e R s m args below meth c H1 locs (cells + 1) (slots + 6) Q (F0 m (pc + 4 + ln) ls (.ref a9 :: .ref H.size :: .ref H.size :: st.map tv)) := by
    intro T hT X
    have hws : ∀ a ∈ Bundle.ownAtoms own iC cls names, a.before args s = true := fun a ha => by
      rcases OW_of t7 a ha with h | ⟨h, h'⟩ | rfl | rfl | rfl | rfl
      · exact hts _ h
      · exact va_Nw.use h' (hN _ h)
      · exact hO.1.2.2.2.2.2.2.2.2.1.isRef
      · exact hO.1.2.2.2.2.2.2.2.2.2.1.isRef
      · exact hO.1.2.2.2.2.2.2.2.2.1.lays
      · exact hO.1.2.2.2.2.2.2.2.2.2.1.lays
    obtain ⟨U, hst, hrun, hend, hWm, hsame, ce, hce, hOC⟩ := X.ctorThrowS hx (hl9 e X.admits) (own := own) (cls := cls) (names := names) (ic := iC) hown t5 t6 hws
      (fun x hx cell hc => by
        have h1 : mN μs ≤ x.base := hS.2.2 x hx
        rw [Array.getElem?_eq_none (by rw [hsz]; exact h1)] at hc
        cases hc) hfc hkC (a := H.size) (by rw [hT]; exact e1) hS.1 (msg := .ref a9) rfl (g := F0 m (pc + 4 + ln) ls (.ref a9 :: .ref H.size :: .ref H.size :: st.map tv)) rfl (by rw [hml]; exact hl.1) rfl rfl (rest := st.map tv) rfl (by rw [hb]; exact d3) (by rw [hb]; exact d4)
      (fun x hx => by
        have h0 : c.exceptionTable.toList = [] := by
          have := Array.isEmpty_iff.mp htab
          rw [this]
        rw [h0] at hx
        cases hx) hf (by
          show 2 * 0 + ((Value.ref H.size :: st.map tv).map fun v => v.category).sum + _ ≤ _
          have e9 : ((Value.ref H.size :: st.map tv).map fun v => v.category).sum = 1 + ((st.map tv).map fun v => v.category).sum := rfl
          rw [e9]
          omega) hlk
    have hold := sbn_old hsame (fun x hx => by rw [hsz]; exact hS.2.2 x hx)
    have hge : s.heap.size ≤ U.heap.size := hsame.2.1
    refine ⟨U, hst, hQ U (.threw H.size) hrun hend ⟨⟨H.size, U.heap.size, ce, rfl, by rw [← hsz]; exact hge, ⟨hN.warm hWm, hK.moved hWm.alike, (hWD.2.2.1.kept (fun a ha _ => hold a ha)).warm hWm, Nat.le_trans hWD.2.2.2.1 hge, ⟨rfl, fun a e he => (hWD.2.2.2.2.2 a e he).kept (hold a (hWD.2.2.2.2.2 a e he).lt)⟩⟩, hce, by rw [hOC.vm]; rfl, by rw [hWm.alike.findClass]; exact hOC.cls, ⟨hge, fun q hq _ => hold q hq⟩⟩, locs, ⟨⟨_, rfl⟩, hWm, hsame.weaken (fun y hy _ => hy) hc.2 hs.2⟩, fun q hq => Nat.le_trans (by rw [← hsz]; exact hWD.2.2.2.1) (hS.2.2 q hq)⟩⟩
  rcases d2 with ⟨rfl, d2⟩ | ⟨rfl, d2⟩
  · exact va_ldcS hx hb hown hvk d2 kk
  · intro T hT X
    obtain ⟨t, b1, b2⟩ := kk T hT X
    exact ⟨t, X.ldcStringW hx hown (text := tx) (a := a9) hvk.1 hvk.2 (g := F0 m (pc + 4) ls (.ref H.size :: .ref H.size :: st.map tv)) rfl (by rw [hb]; exact d2) t b1, b2⟩
end
/-- the exceptions -/
def exN (k : Nat) : String := match k with
  | 0 => "java/lang/IllegalArgumentException"
  | 1 => "java/lang/IllegalStateException"
  | 2 => "java/lang/UnsupportedOperationException"
  | 3 => "java/lang/IndexOutOfBoundsException"
  | _ => "java/util/NoSuchElementException"
def exU : List String := ["java/lang/RuntimeException", "java/lang/Exception"]
def cvI (r : Nat ⊕ Int32) : String ⊕ Option TV := match r with
  | .inl k => .inl (exN k)
  | .inr x => .inr (some (vI x))
def cvV (r : Nat ⊕ Unit) : String ⊕ Option TV := match r with
  | .inl k => .inl (exN k)
  | .inr _ => .inr none
theorem rqI {X : CX} {mc ms : Nat} {μ0 μ μ' : Mem} {r : Nat ⊕ Int32} {x : Int32} (hQ : RQ2 X mc ms μ0 (cvI r) μ') (h : some ((.inr x : Nat ⊕ Int32), μ) = some (r, μ')) : RQ X mc ms μ0 (some (vI x)) μ := by
  cases h
  exact hQ
theorem rqV {X : CX} {mc ms : Nat} {μ0 μ μ' : Mem} {r : Nat ⊕ Unit} {x : Unit} (hQ : RQ2 X mc ms μ0 (cvV r) μ') (h : some ((.inr x : Nat ⊕ Unit), μ) = some (r, μ')) : RQ X mc ms μ0 none μ := by
  cases h
  exact hQ
theorem rqXI {X : CX} {mc ms : Nat} {μ0 μ μ' : Mem} {r : Nat ⊕ Int32} {k : Nat} (hQ : RQ2 X mc ms μ0 (cvI r) μ') (h : some ((.inl k : Nat ⊕ Int32), μ) = some (r, μ')) : ∃ μs, RX X mc ms μs (exN k) := by
  cases h
  exact hQ
theorem rqXV {X : CX} {mc ms : Nat} {μ0 μ μ' : Mem} {r : Nat ⊕ Unit} {k : Nat} (hQ : RQ2 X mc ms μ0 (cvV r) μ') (h : some ((.inl k : Nat ⊕ Unit), μ) = some (r, μ')) : ∃ μs, RX X mc ms μs (exN k) := by
  cases h
  exact hQ
def nrm {α : Type} (o : Option ((Nat ⊕ α) × Mem)) : Option (α × Mem) := match o with
  | some (.inr r, μ) => some (r, μ)
  | _ => none
theorem nrmS {α : Type} {o : Option ((Nat ⊕ α) × Mem)} {r : α} {μ : Mem} (h : nrm o = some (r, μ)) : o = some (.inr r, μ) := by
  unfold nrm at h
  split at h
  · cases h
    rfl
  · cases h
/-! methods with handlers -/
def QM (G : GG) (μ : Mem) (v : Option TV) (M : Mem → Prop) : Array Value → State → Outcome → State → Prop := fun a st oc t => ∃ μ', M μ' ∧ QC G μ μ' v a st oc t
abbrev CW (l : Launch) (G : GG) (y : MethodName) (cc : ByteArray) (maxL : Nat) (ret : Option FieldType) (hh : List (Nat × Nat × Nat × Nat)) (fr mc ms lc : Nat) (μ : Mem) (av : List TV) (v : Option TV) (M : Mem → Prop) : Prop :=
  Met l y (Cond.codeWith y cc maxL ret hh :: GW) { frames := fr, cells := mc, slots := ms, locals := lc } (PC G μ av) (QM G μ v M) mc ms (fun q => mW μ ≤ q)
def RQM (X : CX) (mc ms : Nat) (μ : Mem) (v : Option TV) (M : Mem → Prop) : Prop := match X with
  | (G, ed, lo, p, l, e, R, s, m, args, below, meth, c, Q) => ed = mE μ ∧ lo = mW μ ∧ ∀ t, MQ below (QM G μ v M) args s mc ms (fun q => mW μ ≤ q) t → Q t
theorem rqm {X : CX} {mc ms : Nat} {μ μ' : Mem} {v : Option TV} {M : Mem → Prop} (h : RQM X mc ms μ v M) (hm : M μ') : RQ X mc ms μ v μ' := by
  obtain ⟨G, ed, lo, p, l, e, R, s, m, args, below, meth, c, Q⟩ := X
  obtain ⟨h1, h2, h3⟩ := h
  refine ⟨h1, h2, fun t ht => h3 t ?_⟩
  obtain ⟨o, b1, b2, b3, b4⟩ := ht
  exact ⟨o, b1, b2, ⟨μ', hm, b3⟩, b4⟩
def TB (X : CX) (hh : List (Nat × Nat × Nat × Nat)) : Prop := match X with
  | (G, ed, lo, p, l, e, R, s, m, args, below, meth, c, Q) => c.exceptionTable.toList.map (fun h => (h.startPc, h.endPc, h.handlerPc, h.catchType)) = hh
theorem wm_metW {l : Launch} {G : GG} {y : MethodName} {cc : ByteArray} {maxL : Nat} {ret : Option FieldType} {hh : List (Nat × Nat × Nat × Nat)} {fr mc ms lc : Nat} {μ : Mem} {av : List TV} {v : Option TV} {M : Mem → Prop} (hy : plainName y.cls = true) (hn : (av.map tcat).sum ≤ maxL) {lv : List (Nat × TV)} (hlv : tv_args 0 av = lv)
    (k : ∀ X : CX, EV X cc maxL y.cls ret → RQM X mc ms μ v M → TB X hh → xl X = l → X.1 = G → xR X = { frames := fr, cells := mc, slots := ms, locals := lc } → X.2.2.2.2.2.2.2.2.2.2.2.1.name = y.name → WM X maxL 0 lv [] 0 0 μ) : CW l G y cc maxL ret hh fr mc ms lc μ av v M := by
  refine va_MetW (cc := cc) (maxL := maxL) (ret := ret) (hh := hh) hy rfl ?_
  intro p e s m args below meth c s₁ B hml hv
  obtain ⟨rfl, hN, hK, hO, hlo, hM⟩ := hv
  have hts := atoms_spec (ws := Cond.codeWith y cc maxL ret hh :: GW) B.pre
  obtain ⟨m9, meth', c', g0, g1, g2, g3, g4, g5, g6, g7, g8⟩ := Cond.codeWith_spec (hts _ List.mem_cons_self)
  cases B.named.symm.trans g0
  cases B.method.symm.trans g1
  cases (Stand.of_body B).code.symm.trans g2
  have K := k (G, mE μ, mW μ, p, l, e, { frames := fr, cells := mc, slots := ms, locals := lc }, s, m, (av.map tv).toArray, below, meth, c, MQ below (QM G μ v M) (av.map tv).toArray s mc ms (fun q => mW μ ≤ q))
    ⟨B.exec, B.bytes, hml, findClass_of_methodNamed B.named, fun w hw => hts w (List.mem_cons_of_mem _ hw), hN, hK, hO, hlo, B.notSynchronized, B.returns⟩ ⟨rfl, rfl, fun _ h => h⟩ g5 rfl rfl rfl
    (name_of_methodNamed B.named B.method).1
  rw [lg_entry_eq]
  have hl := lv_entry (av.map tv) (n := maxL) (by rw [tv_len]; exact hn)
  rw [tv_args_eq, hlv] at hl
  exact K s.heap [] _ ⟨hM, rfl, rfl, va_S.rf⟩ hl
/-- a row of the table that doesn't take the exception: it doesn't cover pc, or its class is another one -/
def PassR (own : String) (pc : Nat) (Ex : String) (z : Nat × Nat × Nat × Nat) : Prop := (¬ (z.1 ≤ pc ∧ pc < z.2.1)) ∨ (z.2.2.2 ≠ 0 ∧ ∃ nm, Cond.classLink own z.2.2.2 nm ∈ GW ∧ (Ex, nm) ∈ ncs)
def PostX (G : GG) (μ : Mem) (Ex : String) (mc ms : Nat) : Pt → Array Value → Addr → Pt → Prop := fun A a v B =>
  ∃ (g : JFrame) (mk : MethodId) (t : State) (L : List Loc), B.U.heap = t.heap ∧ B.U.vm = t.vm ∧ QX G μ Ex mc ms a (A.U.calling g mk a) (.threw v) t ∧ B.locs = A.locs ++ L ∧ (∀ q ∈ L, mW μ ≤ q.base) ∧ B.cells = A.cells + mc ∧ B.slots = A.slots + ms
theorem backT_of {l : Launch} {R : Room} {p : Program} {e : Env} {below : List Frame} {s : State} {sargs : Array Value} {y : MethodName} {len W : Nat} {ws : List Cond} {rm : Room} {G : GG} {μ : Mem} {av : List TV} {Ex : String} {mc ms : Nat} {bytes : ByteArray} {maxL : Nat} {ret : Option FieldType}
    (hM : MetFree l y (headSpec ws rm) (PC G μ av) (fun _ _ _ _ _ => True) (QX G μ Ex mc ms)) (hrc : rm.cells = mc) (hrs : rm.slots = ms)
    (hframes : rm.frames + 1 ≤ R.frames) (hlocals : W + (maxL + 11) + rm.locals ≤ R.locals)
    (hws : ∀ w ∈ ws, ∀ a' U, s.WarmedH U.vm → w.before a' U = true) (hcode : Cond.code y bytes maxL ret ∈ ws) (hinit : ∀ a' U, s.WarmedH U.vm → (Cond.initialized y.cls).before a' U = true) :
    Jvm.Free.BackT l R p e below s sargs y len W (PreOf R mc ms (PC G μ av)) (PostX G μ Ex mc ms) := by
  refine Jvm.Free.BackT.of_free (S := headSpec ws rm) (P := PC G μ av) (K := fun _ _ _ _ _ => True) (Q := QX G μ Ex mc ms) (bytes := bytes) (maxL := maxL) (ret := ret)
    (E := fun a st o t L k n => k = mc ∧ n = ms ∧ ∀ q ∈ L, mW μ ≤ q.base) hM hframes hlocals ?_ ?_ (fun _ _ _ _ _ _ _ _ _ => trivial) ?_ ?_
  · intro m meth c A a X hp
    exact ⟨atoms_intro fun w hw => hws w hw _ _ X.warmed, hws _ hcode _ _ X.warmed, hinit _ _ X.warmed, by rw [show (headSpec ws rm).room.cells = mc from hrc]; exact hp.1, by rw [show (headSpec ws rm).room.slots = ms from hrs]; exact hp.2.1⟩
  · intro m meth c A a g mk X hp
    exact pc_blind _ _ _ _ hp.2.2
  · intro a st o t hq
    obtain ⟨L, hF, hL⟩ := hq.2
    exact ⟨L, mc, ms, hF, rfl, rfl, hL⟩
  · intro m meth c A a g mk v t L k n X hp hq hF ⟨e1, e2, hL⟩
    subst e1; subst e2
    exact ⟨g, mk, t, L, rfl, rfl, hq, rfl, hL, rfl, rfl⟩
theorem tb_split {es : List ExceptionTableEntry} {pre post : List (Nat × Nat × Nat × Nat)} {x : Nat × Nat × Nat × Nat} (h : es.map (fun h => (h.startPc, h.endPc, h.handlerPc, h.catchType)) = pre ++ x :: post) : ∃ (a : List ExceptionTableEntry) (b : ExceptionTableEntry) (c : List ExceptionTableEntry), es = a ++ b :: c ∧ a.map (fun h => (h.startPc, h.endPc, h.handlerPc, h.catchType)) = pre ∧ (b.startPc, b.endPc, b.handlerPc, b.catchType) = x := by
  obtain ⟨a, l2, h1, h2, h3⟩ := List.map_eq_append_iff.mp h
  obtain ⟨b, c, h4, h5, -⟩ := List.map_eq_cons_iff.mp h3
  exact ⟨a, b, c, by rw [h1, h4], h2, h5⟩
section
variable {X : CX} {cc : ByteArray} {nL pc : Nat} {own : String} {ret : Option FieldType} {lv : List (Nat × TV)} {st : List TV} {cells slots : Nat} {μ : Mem} {β : Type} {res : β}
set_option maxHeartbeats 4000000 in
/-- a call that throws, and is caught here -/
theorem wm_cVX (E : EV X cc nL own ret) {y : MethodName} {bytes : ByteArray} {maxL index n : Nat} {r' : Option FieldType} {fr mc ms lc : Nat} {As : List TV} {Ex : String} {st0 : List TV} {r : Option Nat} {ci : Nat} {C : String} {T : u_T} {N : Nat} {u : Unit} {hh : List (Nat × Nat × Nat × Nat)} (hTB : TB X hh) (hL : LK own index y bytes maxL r' n) (hl1 : Cond.methodLink own index y ∈ GW) (hcl : vwCl[ci]? = some (C, T, N)) (hin : Cond.instanceMethod y ∈ GW) (hsel : Cond.selects C y y ∈ GW) (hrc : rc μ r ci = some u)
    (hM : CZ (xl X) X.1 y bytes maxL r' fr mc ms lc μ (vR r :: As) Ex) (hn : As.length = n) (hst : st0 = As.reverse ++ vR r :: st) (hR : fr + 1 ≤ (xR X).frames ∧ 8 + (maxL + 11) + lc ≤ (xR X).locals) (hf : cells + mc ≤ (xR X).cells ∧ slots + ms ≤ (xR X).slots) (hsm : (st.map tcat).sum ≤ 8) (hdg : decode cc pc = .ok (.invokevirtual index, 3))
    (pre : List (Nat × Nat × Nat × Nat)) (x : Nat × Nat × Nat × Nat) (post : List (Nat × Nat × Nat × Nat)) (hsp : hh = pre ++ x :: post) (hpass : ∀ z ∈ pre, PassR own pc Ex z) (hx9 : x.1 ≤ pc ∧ pc < x.2.1) (h0 : x.2.2.2 ≠ 0) (hlink9 : Cond.classLink own x.2.2.2 Ex ∈ GW) (hca : Cond.castable Ex Ex ∈ NW)
    (kk : ∀ (M a : Nat), mN μ ≤ M → WM X nL x.2.2.1 lv [vR (some a)] (cells + mc) (slots + ms) (m_grow μ M)) : WM X nL pc lv st0 cells slots μ := by
  subst hst
  obtain ⟨a, fs, rfl, hc⟩ := rcS hrc
  obtain ⟨hcode, hini, -, hd⟩ := hL
  obtain ⟨G, ed, lo, p, l, e, R, s, m, args, below, meth, c, Q⟩ := X
  obtain ⟨hx, hb, hml, hown, hts, hN, hK, hO, hlo, hlk, hret⟩ := E
  have hM : CZ l G y bytes maxL r' fr mc ms lc μ (vR (some a) :: As) Ex := hM
  have hTB : c.exceptionTable.toList.map (fun h => (h.startPc, h.endPc, h.handlerPc, h.catchType)) = hh := hTB
  intro H locs ls hw hl
  have hG := gw_ws hts hcode
  obtain ⟨rr, hr', cell, g1, g2, g3, -⟩ := hw.1.2 a _ hc
  have hcls := (hK.1 ci _ hcl).2
  have hpay := pay_in hts hG
  have hBk : Jvm.Free.BackT l R p e below s args y 3 8 (PreOf R mc ms (PC G μ (vR (some a) :: As))) (PostX G μ Ex mc ms) := backT_of (bytes := bytes) (maxL := maxL) (ret := r') hM rfl rfl hR.1 hR.2 hpay List.mem_cons_self (fun a' U hW => word_at hW (Or.inl (by first | rfl | simp [Cond.onTables, Cond.keeps, Cond.steady])) (hts _ hini))
  intro T hT X
  obtain ⟨mk, methM, hnamed, hmethM, hstM, habM⟩ := Cond.instanceMethod_spec (hts _ hin)
  obtain ⟨methM', cM, hmethM', -, -, -, -, -, -, hsigM⟩ := Cond.code_spec hnamed (hts _ hcode)
  cases hmethM.symm.trans hmethM'
  obtain ⟨c2, r2, m2, q1, q2, q3, q4, kP, hkP, hkPi⟩ := Cond.selects_spec (hts _ hsel)
  have hcellC : s.vm.findClass C = some cell.cls := by rw [g2]; exact hcls.1
  cases hcellC.symm.trans q1
  cases (State.methodFound?_of_named hnamed ⟨hd.1, hd.2.1⟩).symm.trans q2
  cases hnamed.symm.trans q3
  have hselP : selectMethod e.platform s.vm cell.cls mk = .method mk := by rw [Launch.admits_selectMethod X.admits]; exact q4
  have hlen : (As.map tv).length = methM.sig.parameters.length := by
    have h2 := hd.2.2
    rw [hsigM] at h2
    rw [List.length_map, hn]
    exact (Option.some.inj h2).symm
  have hsum := cat_sum st hsm
  have hstk : (F0 m pc ls ((As.reverse ++ vR (some a) :: st).map tv)).stack = (As.map tv).reverse ++ .ref a :: st.map tv := by
    show (As.reverse ++ vR (some a) :: st).map tv = _
    rw [List.map_append, List.map_reverse]
    rfl
  obtain ⟨vm₁, X₁, hstep₁⟩ := X.invokevirtual hx hown (hts _ hl1) hnamed hmethM hstM hkP hkPi ⟨hd.1, hd.2.1⟩ (a := a) (cell := cell) (by rw [hT]; exact g1)
    (fun z h => by rw [g3] at h; cases h) hselP hmethM habM hkP hkPi (g := F0 m pc ls ((As.reverse ++ vR (some a) :: st).map tv)) rfl (argsL := As.map tv) (rest := st.map tv) hlen hstk (by rw [hb]; exact hdg)
  have hpre : PreOf R mc ms (PC G μ (vR (some a) :: As)) ⟨T.setVm vm₁, locs, cells, slots⟩ (Value.ref a :: As.map tv).toArray := ⟨hf.1, hf.2, rfl, wd_at hN hK hO hlo hw (T.setVm vm₁) hT X₁.warmed⟩
  obtain ⟨v, ⟨U', l2, c2', s2'⟩, X', hpost, hsteps⟩ := hBk m meth c ⟨T.setVm vm₁, locs, cells, slots⟩ { F0 m pc ls ((As.reverse ++ vR (some a) :: st).map tv) with stack := st.map tv } (.invokevirtual index) mk (Value.ref a :: As.map tv).toArray X₁ rfl (hl.1.trans hml.symm) (by rw [hb]; exact hdg) (lv_room hsum) (X₁.named hnamed) hpre
  obtain ⟨g9, mk9, t, L, e1, e2, ⟨⟨a9, N9, ce, hoc, hN9, hWD9, hce, hst9, hfc9, hF9⟩, -⟩, h1, hL9, h2, h3⟩ := hpost
  dsimp only [Pt.U, Pt.locs, Pt.cells, Pt.slots] at X' e1 e2 h1 h2 h3 hsteps
  subst h1; subst h2; subst h3
  cases hoc
  obtain ⟨ta, tb, tc, es, ep, ex⟩ := tb_split (hTB.trans hsp)
  obtain ⟨cE, cE', f1, f2, f3⟩ := Cond.castable_spec (va_Nw.use (A := args) rfl (hN _ hca))
  cases f1.symm.trans f2
  have hceC : ce.cls = cE := by
    have hWs : s.vm.Alike U'.vm := X'.warmed.alike
    have : U'.vm.findClass Ex = some ce.cls := by rw [e2]; exact hfc9
    rw [hWs.findClass] at this
    exact Option.some.inj (this.symm.trans f1)
  subst ex
  obtain ⟨hend, hk0⟩ := X'.catches_of_link hown (x := tb) h0 (hts _ hlink9) f1 (thrown := ce.cls) (by rw [hceC]; exact f3)
  have hpl : e.platform.magicAccessors = ({} : Platform).magicAccessors := by rw [X.admits.platform]
  obtain ⟨vm', XV, stV⟩ := X'.thenCaughtThrough v (g := { F0 m pc ls ((As.reverse ++ vR (some a) :: st).map tv) with stack := st.map tv }) rfl (s₀ := T.setTop (F0 m pc ls ((As.reverse ++ vR (some a) :: st).map tv))) (hstep₁ _ fun acts => by rw [doInvoke_state]; exact hsteps) (cell := ce) (by rw [e1]; exact hce) hst9 hk0 ta tb tc es
    (fun z hz => by
      have hz' : (z.startPc, z.endPc, z.handlerPc, z.catchType) ∈ pre := by rw [← ep]; exact List.mem_map.mpr ⟨z, hz, rfl⟩
      rcases hpass _ hz' with h | ⟨h, nm, hl2, hnc⟩
      · left
        simp only [covers]
        simp only [not_and, Nat.not_lt] at h
        first | (by_cases h5 : z.startPc ≤ pc
                 · simp [F0, h5, h h5]
                 · simp [F0, h5]) | skip
      · right
        obtain ⟨c5, t5, n1, n2, n3⟩ := hO.2.2.2 _ hnc
        obtain ⟨c6, hc6, hcl6⟩ := Cond.classLink_spec hown (hts _ hl2) e.platform hpl
        cases hc6.symm.trans n2
        cases f1.symm.trans n1
        exact ⟨h, _, hcl6, by rw [hceC]; exact n3⟩)
    (by simp only [covers]; simp [F0, hx9.1, hx9.2]) hend
  obtain ⟨t9, b1, b2⟩ := kk N9 v hN9 (U'.setVm vm').heap (locs ++ L) ls ⟨(by show MM G (m_grow μ N9) U'.heap; rw [e1]; exact hWD9.2.2.2.2), hw.2.1, hw.2.2.1, ⟨(by
      show s.heap.size ≤ U'.heap.size
      rw [e1]
      have hz : H.size ≤ t.heap.size := by have := hF9.1; rw [show ((T.setVm vm₁).calling g9 mk9 (Value.ref a :: As.map tv).toArray).heap = H from hT] at this; exact this
      exact Nat.le_trans hw.2.2.2.1 hz), (fun q g1' g2' => by
      show U'.heap[q]? = _
      rw [e1]
      have hz := hF9.2 q
      rw [show ((T.setVm vm₁).calling g9 mk9 (Value.ref a :: As.map tv).toArray).heap = H from hT] at hz
      rw [hz (Nat.lt_of_lt_of_le g1' hw.2.2.2.1) (by rw [hw.2.2.1]; exact g2')]
      exact hw.2.2.2.2.1 q g1' g2'), fun q hq => by
      rcases List.mem_append.mp hq with h | h
      · exact hw.2.2.2.2.2 q h
      · show lo ≤ q.base
        rw [← hw.2.2.1]
        exact hL9 q h⟩⟩ hl (U'.setVm vm') rfl XV
  exact ⟨t9, stV.trans b1, b2⟩
end
