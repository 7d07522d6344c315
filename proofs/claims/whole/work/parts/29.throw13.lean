/-! a throw of an exception whose maker passes its text on by the entry 13 -/
def b13 : ByteArray := ⟨#[42, 43, 183, 0, 13, 177]⟩
theorem b13_0 : decode b13 0 = .ok (.aload_n 0, 1) := by decide +kernel
theorem b13_1 : decode b13 1 = .ok (.aload_n 1, 1) := by decide +kernel
theorem b13_2 : decode b13 2 = .ok (.invokespecial 13, 3) := by decide +kernel
theorem b13_5 : decode b13 5 = .ok (.return_, 1) := by decide +kernel
def nsAt (own : String) (ic : Nat) (X Y : String) (ix : Nat) (bs : ByteArray) (names : List String) : List Cond :=
  Bundle.throwableAtoms ++ (Bundle.throwableSAtoms ++ (Bundle.passSAtoms X Y ix bs ++ (Bundle.chainSAtoms Y names ++
  [.methodLink own ic (Bundle.initS X), .instantiable X 6, .castable X X, .selects X Bundle.tFill0 Bundle.tFill0, .selects X Bundle.tFill Bundle.tFill,
   .lays X Bundle.tN "cause" "Ljava/lang/Throwable;", .lays X Bundle.tN "stackTrace" Bundle.steD, .lays X Bundle.tN "suppressedExceptions" Bundle.listD, .lays X Bundle.tN "detailMessage" "Ljava/lang/String;",
   .isRef (.static Bundle.tN "UNASSIGNED_STACK" Bundle.steD), .isRef (.static Bundle.tN "SUPPRESSED_SENTINEL" Bundle.listD),
   .fieldLink Bundle.tN 198 Bundle.tN "backtrace" "Ljava/lang/Object;", .lays Bundle.tN Bundle.tN "backtrace" "Ljava/lang/Object;", .lays X Bundle.tN "backtrace" "Ljava/lang/Object;"])))
theorem OW13_of {own : String} {ic : Nat} {cls : String} {names : List String} (h : (nsAt own ic cls "java/lang/RuntimeException" 13 b13 names).all owOK = true) : ∀ a ∈ nsAt own ic cls "java/lang/RuntimeException" 13 b13 names, a ∈ GW ∨ (a ∈ NW ∧ a.onTables = true) ∨ a = .isRef (.static "java/lang/Throwable" "UNASSIGNED_STACK" "[Ljava/lang/StackTraceElement;") ∨ a = .isRef (.static "java/lang/Throwable" "SUPPRESSED_SENTINEL" "Ljava/util/List;") ∨ a = .laysStatic "java/lang/Throwable" "UNASSIGNED_STACK" "[Ljava/lang/StackTraceElement;" ∨ a = .laysStatic "java/lang/Throwable" "SUPPRESSED_SENTINEL" "Ljava/util/List;" := by
  intro a ha
  have h1 := List.all_eq_true.mp h a ha
  simp only [owOK, Bool.or_eq_true, Bool.and_eq_true, decide_eq_true_eq] at h1
  rcases h1 with (((⟨h1, h2 | ⟨h2, h3⟩⟩ | h1) | h1) | h1) | h1
  · exact Or.inl (GW_of h1 h2)
  · exact Or.inr (Or.inl ⟨NW_of h1 h2, h3⟩)
  · exact Or.inr (Or.inr (Or.inl h1))
  · exact Or.inr (Or.inr (Or.inr (Or.inl h1)))
  · exact Or.inr (Or.inr (Or.inr (Or.inr (Or.inl h1))))
  · exact Or.inr (Or.inr (Or.inr (Or.inr (Or.inr h1))))
def TF13 (own : String) (iN iS iC : Nat) (cls : String) (names : List String) : Prop := Cond.classLink own iN cls ∈ GW ∧ Cond.instantiable cls 6 ∈ GW ∧ Cond.initialized cls ∈ GW ∧ (∃ tx, (own, iS, tx) ∈ srefs) ∧ Bundle.fit cls = true ∧ (∀ n ∈ names, Bundle.fit n = true) ∧ (nsAt own iC cls "java/lang/RuntimeException" 13 b13 names).all owOK = true
set_option maxHeartbeats 4000000 in
theorem thr13 {p : Program} {l : Launch} {e : Env} {R : Room} {s : State} {m₀ : MethodId} {args : Array Value} {below : List Frame} {meth : Method} {c : Code} {W : State} {locs : List Loc} {cells slots : Nat} (X : Stand p l e R s m₀ args below meth c W locs cells slots) (hexec : p.tables.exec = Jvm.exec) (htr : e.platform.stackTraces = false) {own cls Y : String} {names : List String} {ic : Nat}
    (hown : s.vm.findClass own = some m₀.cls) (hcls : Bundle.fit cls = true) (hY : Bundle.fit Y = true) (hnames : ∀ n ∈ names, Bundle.fit n = true)
    (h : ∀ a ∈ nsAt own ic cls Y 13 b13 names, a.before args s = true)
    (hlocs : ∀ x ∈ locs, ∀ cell, s.heap[x.base]? = some cell → cell.vm.isStatics = false)
    {a : Addr} {cX : ClassId} {kX : Class} (hfX : s.vm.findClass cls = some cX) (hkX : s.vm.classes[cX]? = some kX) (hcell : W.heap[a]? = some (freshCell cX kX)) (hnew : s.heap.size ≤ a)
    {msg : Value} (hmsg : msg.isRef = true)
    {g : JFrame} (hg : g.method = m₀) (hsize : g.locals.size = c.maxLocals) (hlocked : g.locked = none) (hentered : g.entered = []) {rest : List Value} (hstack : g.stack = msg :: .ref a :: .ref a :: rest)
    (hd6 : decode c.code g.pc = .ok (.invokespecial ic, 3)) (hd9 : decode c.code (g.pc + 3) = .ok (.athrow, 1)) (hout : ∀ x ∈ c.exceptionTable.toList, covers x (g.pc + 3) = false)
    (hRf : names.length + 4 < R.frames) (hRl : 2 * g.monitorRoom + ((Value.ref a :: rest).map fun v => v.category).sum + (13 * (names.length + 2) + 42) ≤ R.locals) (hlocks : meth.locks = false) :
    ∃ U : State, Steps p.tables e below (W.setTop g) U ∧ U.status = .running ∧ Ended U below (.threw a) ∧ s.WarmedH U.vm ∧ s.sameButNew ({ U with vm := s.vm } : State) locs cells slots ∧
      ∃ ce, U.heap[a]? = some ce ∧ ce.vm = .none ∧ s.vm.findClass cls = some ce.cls := by
  have hpl : e.platform.magicAccessors = ({} : Platform).magicAccessors := by rw [X.admits.platform]
  have w : ∀ x, x ∈ nsAt own ic cls Y 13 b13 names → x.holds args s none s [] = true := fun x hx => h x hx
  obtain ⟨T, Z0, LT, -, TY⟩ := ThrowableC.of_atoms (args := args) (by rw [X.admits.platform] : e.platform.frameOwnsMonitors = true) (by rw [X.admits.platform] : e.platform.finalization = false) hpl (fun x hx => h x (by simp [nsAt, hx]))
  obtain ⟨Z, M, LZ, LM, hnZ⟩ := Init0T.ofS_atoms (args := args) hpl LT TY (fun x hx => h x (by simp [nsAt, hx]))
  obtain ⟨P2, Ps, hlen, L2, hLs, hP2, hl2, hls⟩ := Bundle.chainS (args := args) hpl hnZ names Y hY hnames (fun x hx => h x (by simp [nsAt, hx]))
  obtain ⟨P1, L1, hP1, hS1⟩ := PassC.ofS_atoms (args := args) (s := s) hpl (X := cls) (Y := Y) (Bundle.fit_spec hcls).1 (Bundle.fit_spec hY).2 b13_0 b13_1 b13_2 b13_5 (fun x hx => h x (by simp [nsAt, hx]))
  have hsup : P1.sup = P2.m := Option.some.inj (hS1.symm.trans hP2)
  have hf1 : s.vm.findClass cls = some P1.m.cls := findClass_of_methodNamed hP1
  cases Option.some.inj (hfX.symm.trans hf1)
  obtain ⟨c1, k1, hc1, hk, hord, -, -, hn6⟩ := Cond.instantiable_spec (w (.instantiable cls 6) (by simp [nsAt]))
  cases Option.some.inj (hc1.symm.trans hf1)
  cases Option.some.inj (hkX.symm.trans hk)
  have hsel : ∀ (y : MethodName) (r : MethodId), s.methodNamed? y = some r → y.cls ≠ "java/lang/invoke/MethodHandle" ∧ y.cls ≠ "java/lang/invoke/VarHandle" → Cond.selects cls y y ∈ nsAt own ic cls Y 13 b13 names → selectMethod e.platform s.vm P1.m.cls r = .method r := by
    intro y r hy hny hin
    obtain ⟨c2, r2, m2, q1, q2, q3, q4, -⟩ := Cond.selects_spec (w _ hin)
    cases Option.some.inj (q1.symm.trans hf1)
    cases Option.some.inj (q2.symm.trans (State.methodFound?_of_named hy hny))
    cases Option.some.inj (q3.symm.trans hy)
    rw [Launch.admits_selectMethod X.admits]
    exact q4
  have hsel0 := hsel _ _ TY.fill0 (by decide) (by simp [nsAt])
  have hselF := hsel _ _ TY.fill (by decide) (by simp [nsAt])
  obtain ⟨cS0, hcS0, hiss⟩ := TY.statics
  obtain ⟨u0, hu0⟩ := Cond.staticRefV TY.unassigned LT.unassignedStatic LT.statics hcS0 hiss (w (.isRef (.static Bundle.tN "UNASSIGNED_STACK" Bundle.steD)) (by simp [nsAt]))
  obtain ⟨sen, hsen⟩ := Cond.staticRefV TY.sentinel LT.sentinelStatic LT.statics hcS0 hiss (w (.isRef (.static Bundle.tN "SUPPRESSED_SENTINEL" Bundle.listD)) (by simp [nsAt]))
  obtain ⟨ci, iB, fB, hkB, hgB, haB, hsB, -, hnB, htB, hffB⟩ := Cond.ownField (t := .object "java/lang/Object") TY.found LT.cls (by decide +kernel) (w (.fieldLink Bundle.tN 198 Bundle.tN "backtrace" "Ljava/lang/Object;") (by simp [nsAt])) (w (.lays Bundle.tN Bundle.tN "backtrace" "Ljava/lang/Object;") (by simp [nsAt])) e.platform hpl
  obtain ⟨cS, hcS, heS, -, hkeep⟩ := X.same.2.2.2.2.2 T.aS cS0 hcS0
  have hcS : W.heap[T.aS]? = some cS := hcS
  have hfree : ∀ i, (⟨T.aS, i⟩ : Loc) ∉ locs := fun i hm => by
    have := hlocs _ hm cS0 hcS0
    rw [hiss] at this
    cases this
  have hknS : cS.vm ≠ .unknown := by
    rw [heS]
    intro hu
    rw [show cS0.vm = .unknown from hu] at hiss
    cases hiss
  have hneS : T.aS ≠ a := Nat.ne_of_lt (Nat.lt_of_lt_of_le (Array.getElem?_eq_some_iff.mp hcS0).1 hnew)
  obtain ⟨iM, hffM⟩ := TY.msg
  obtain ⟨tyC, dC, hdC, hdnC⟩ := Cond.laysAt hf1 hk TY.cause (w (.lays cls Bundle.tN "cause" "Ljava/lang/Throwable;") (by simp [nsAt]))
  obtain ⟨tyS, dS, hdS, hdnS⟩ := Cond.laysAt hf1 hk TY.stack (w (.lays cls Bundle.tN "stackTrace" Bundle.steD) (by simp [nsAt]))
  obtain ⟨tyP, dP, hdP, hdnP⟩ := Cond.laysAt hf1 hk TY.supp (w (.lays cls Bundle.tN "suppressedExceptions" Bundle.listD) (by simp [nsAt]))
  obtain ⟨tyM, dM, hdM, hdnM⟩ := Cond.laysAt hf1 hk hffM (w (.lays cls Bundle.tN "detailMessage" "Ljava/lang/String;") (by simp [nsAt]))
  obtain ⟨tyB, dB, hdB, hdnB⟩ := Cond.laysAt hf1 hk hffB (w (.lays cls Bundle.tN "backtrace" "Ljava/lang/Object;") (by simp [nsAt]))
  have bC := Cond.laysApart hdB hdC hdnB hdnC (by rw [hnB, TY.causeName]; decide)
  have bS := Cond.laysApart hdB hdS hdnB hdnS (by rw [hnB, TY.stackName]; decide)
  have bP := Cond.laysApart hdB hdP hdnB hdnP (by rw [hnB, TY.suppName]; decide)
  have hskip : SkipFacts T e.platform s (fun u => u) u0 ((preparedCellV T.toThrowableT (freshCell P1.m.cls kX) a u0 sen).withEntry W.cur) :=
    ⟨{ ci198 := ci, i198 := iB, fBack := fB }, ⟨hkB, hgB, haB, hsB⟩, by
      have := fresh_default (c := P1.m.cls) tyB
      rw [htB] at this
      simpa [preparedCellV, Cell.setSlot, Cell.withEntry, Array.getElem?_setIfInBounds, bC, bS, bP, bC.symm, bS.symm, bP.symm, defaultValue] using this, fun _ _ => rfl⟩
  obtain ⟨tm, methC, cdC, kC, vm₁, hnC, -, -, -, -, -, -, -, hW₁, st1⟩ := Steps.initColdS (tb := p.tables) (e := e) (below := below) (s := s) (U := W) X.here hexec X.warmed hpl hown (t := Bundle.initS cls) rfl rfl (Bundle.fit_spec hcls).2
    (w (.methodLink own ic (Bundle.initS cls)) (by simp [nsAt])) (h (.instanceMethod (Bundle.initS cls)) (by simp [nsAt, Bundle.passSAtoms])) (bytes := b13) (maxL := 2) (h (.code (Bundle.initS cls) b13 2 none) (by simp [nsAt, Bundle.passSAtoms]))
    (f := g) hg (a := a) (msg := msg) (rest := .ref a :: rest) hstack hd6
  cases Option.some.inj (hnC.symm.trans hP1)
  have X₁ := X.noted hW₁
  obtain ⟨vm₂, X₂, st2⟩ := X₁.ctorMessageOffV hexec (g := { g with stack := .ref a :: rest }) hg hsize T LT Z LZ M LM (P1 :: P2 :: Ps)
    (fun P hP => by
      rcases List.mem_cons.mp hP with rfl | hP
      · exact L1
      · rcases List.mem_cons.mp hP with rfl | hP
        · exact L2
        · exact hLs P hP) ⟨hsup, hl2, hls⟩ (u0 := u0) (sen := sen) (self := a) hmsg (cell := freshCell P1.m.cls kX) (cellS := cS)
    hcell (fun _ => by simp) (by simp) rfl rfl hsel0 hselF hcS hneS hknS (by rw [hkeep _ (hfree _)]; exact hu0) (by rw [hkeep _ (hfree _)]; exact hsen)
    (Takes.of_laid hk hord tyC (by rw [TY.causeType]; rfl)) (Takes.of_laid hk hord tyS (by rw [TY.stackType]; exact fits_refV_array _ u0)) (Takes.of_laid hk hord tyP (by rw [TY.suppType]; exact fits_refV_object _ sen))
    (Takes.of_laid hk hord tyM (by rw [TY.msgType]; exact fits_refV_object _ ⟨msg, hmsg⟩)) TY.objLocals hskip htr [] hd6
    (by simp only [List.length_cons, hlen]; omega) (by simp only [List.length_cons, hlen]; exact hRl)
  obtain ⟨hwalk, hrun, hended, hWU, hsame⟩ := X₂.athrowLeaves hexec (g := { g with stack := .ref a :: rest, pc := g.pc + 3 }) hg hlocked hentered hout (a := a) (rest := rest) rfl hd9
  have hlt : a < ((W.setVm vm₁).setVm vm₂).heap.size := (Array.getElem?_eq_some_iff.mp hcell).1
  have hU := heapAt_setCell_self (s := (W.setVm vm₁).setVm vm₂) (plainBareV T.toThrowableT (freshCell P1.m.cls kX) a u0 sen msg) hlt
  refine ⟨_, st1 _ (fun acts => ?_), hrun, hended, hWU, hsame.weaken (fun y hy hlt' => ?_) (Nat.le_refl _) (Nat.le_refl _), _, hU, rfl, hf1⟩
  · rw [doInvoke_state]
    exact st2 _ hwalk
  · rcases List.mem_append.mp hy with h1 | h1
    · exact h1
    · exfalso
      have hb : y.base = a := by
        simp only [List.mem_cons, List.not_mem_nil, or_false] at h1
        rcases h1 with rfl | rfl | rfl | rfl | rfl <;> rfl
      rw [hb] at hlt'
      exact Nat.not_lt.mpr hnew hlt'
section
variable {X : CX} {cc : ByteArray} {nL pc : Nat} {own : String} {ret : Option FieldType} {lv : List (Nat × TV)} {st : List TV} {cells slots : Nat} {μ : Mem} {β : Type} {res : β}
theorem wm_throw13 (E : EV X cc nL own ret) {iN iS iC mc ms ln : Nat} {cls : String} {names : List String} {μs : Mem} (hT : TF13 own iN iS iC cls names) (hX : RX X mc ms μs cls) (hc : cells + 1 ≤ (xR X).cells ∧ cells + 1 ≤ mc) (hs : slots + 6 ≤ (xR X).slots ∧ slots + 6 ≤ ms) (hf : names.length + 4 < (xR X).frames) (hlc : 13 * (names.length + 2) + 60 ≤ (xR X).locals) (hsm : (st.map tcat).sum ≤ 8)
    (d0 : decode cc pc = .ok (.new iN, 3)) (d1 : decode cc (pc + 3) = .ok (.dup, 1)) (d2 : (ln = 2 ∧ decode cc (pc + 4) = .ok (.ldc iS, 2)) ∨ (ln = 3 ∧ decode cc (pc + 4) = .ok (.ldc_w iS, 3))) (d3 : decode cc (pc + 4 + ln) = .ok (.invokespecial iC, 3)) (d4 : decode cc (pc + 4 + ln + 3) = .ok (.athrow, 1)) : WM X nL pc lv st cells slots μ := by
  obtain ⟨G, ed, lo, p, l, e, R, s, m, args, below, meth, c, Q⟩ := X
  obtain ⟨hx, hb, hml, hown, hts, hN, hK, hO, hlo, hlk, hret⟩ := E
  obtain ⟨rfl, hl9, htab, hWD, hQ⟩ := hX
  obtain ⟨t1, t2, t3, ⟨tx, t4⟩, t5, t6, t7⟩ := hT
  intro H locs ls hw hl
  obtain ⟨hM, hE, hW, hS⟩ := hw
  obtain ⟨cX, kX, hfc, hkX, hkind, -⟩ := Cond.instantiable_spec (hts _ t2)
  obtain ⟨a9, hvk⟩ := hO.2.2.1 _ t4
  have hsz : s.heap.size = mN μs := hWD.2.2.2.2.1
  have hsum := cat_sum st hsm
  have hlc' : 13 * (names.length + 2) + 60 ≤ R.locals := hlc
  refine W.newcK hx hb hown (hts _ t1) (hts _ t2) (hts _ t3) rfl d0 hc.1 hs.1 hfc rfl fun H1 kC hkC e1 z1 o1 => ?_
  refine lv_dup hx hb d1 rfl ?_
  have kk : W p l e R s m args below meth c H1 locs (cells + 1) (slots + 6) Q (F0 m (pc + 4 + ln) ls (.ref a9 :: .ref H.size :: .ref H.size :: st.map tv)) := by
    intro T hT X
    have hws : ∀ a ∈ nsAt own iC cls "java/lang/RuntimeException" 13 b13 names, a.before args s = true := fun a ha => by
      rcases OW13_of t7 a ha with h | ⟨h, h'⟩ | rfl | rfl | rfl | rfl
      · exact hts _ h
      · exact va_Nw.use h' (hN _ h)
      · exact hO.1.2.2.2.2.2.2.2.2.1.isRef
      · exact hO.1.2.2.2.2.2.2.2.2.2.1.isRef
      · exact hO.1.2.2.2.2.2.2.2.2.1.lays
      · exact hO.1.2.2.2.2.2.2.2.2.2.1.lays
    obtain ⟨U, hst, hrun, hend, hWm, hsame, ce, hce, hOC⟩ := thr13 X hx (hl9 e X.admits) (own := own) (cls := cls) (names := names) (ic := iC) hown t5 (by decide +kernel) t6 hws
      (fun x hx cell hc => by
        have h1 : mN μs ≤ x.base := hS.2.2 x hx
        rw [Array.getElem?_eq_none (by rw [hsz]; exact h1)] at hc
        cases hc) hfc hkC (a := H.size) (by rw [hT]; exact e1) hS.1 (msg := .ref a9) rfl (g := F0 m (pc + 4 + ln) ls (.ref a9 :: .ref H.size :: .ref H.size :: st.map tv)) rfl (by rw [hml]; exact hl.1) rfl rfl (rest := st.map tv) rfl (by rw [hb]; exact d3) (by rw [hb]; exact d4)
      (fun x hx => by
        have h0 : c.exceptionTable.toList = [] := by
          have := Array.isEmpty_iff.mp htab
          rw [this]
        rw [h0] at hx
        cases hx) hf (by
          show 2 * 0 + ((Value.ref H.size :: st.map tv).map fun v => v.category).sum + _ ≤ _
          have e9 : ((Value.ref H.size :: st.map tv).map fun v => v.category).sum = 1 + ((st.map tv).map fun v => v.category).sum := rfl
          rw [e9]
          omega) hlk
    have hold := sbn_old hsame (fun x hx => by rw [hsz]; exact hS.2.2 x hx)
    have hge : s.heap.size ≤ U.heap.size := hsame.2.1
    refine ⟨U, hst, hQ U (.threw H.size) hrun hend ⟨⟨H.size, U.heap.size, ce, rfl, by rw [← hsz]; exact hge, ⟨hN.warm hWm, hK.moved hWm.alike, (hWD.2.2.1.kept (fun a ha _ => hold a ha)).warm hWm, Nat.le_trans hWD.2.2.2.1 hge, ⟨rfl, fun a e he => (hWD.2.2.2.2.2 a e he).kept (hold a (hWD.2.2.2.2.2 a e he).lt)⟩⟩, hce, by rw [hOC.1]; rfl, by rw [hWm.alike.findClass]; exact hOC.2, ⟨hge, fun q hq _ => hold q hq⟩⟩, locs, ⟨⟨_, rfl⟩, hWm, hsame.weaken (fun y hy _ => hy) hc.2 hs.2⟩, fun q hq => Nat.le_trans (by rw [← hsz]; exact hWD.2.2.2.1) (hS.2.2 q hq)⟩⟩
  rcases d2 with ⟨rfl, d2⟩ | ⟨rfl, d2⟩
  · exact va_ldcS hx hb hown hvk d2 kk
  · intro T hT X
    obtain ⟨t, b1, b2⟩ := kk T hT X
    exact ⟨t, X.ldcStringW hx hown (text := tx) (a := a9) hvk.1 hvk.2 (g := F0 m (pc + 4) ls (.ref H.size :: .ref H.size :: st.map tv)) rfl (by rw [hb]; exact d2) t b1, b2⟩
end
