/-! the memory as a function: (empty element array of lists, write floor, size of the heap, cells) -/
abbrev ME : Type := (Nat × vp_A) ⊕ (Nat × List Value)
abbrev GG : Type := va_G × (Nat → ClassId)
abbrev Mem : Type := HD × Nat × Nat × (Nat → Option ME)
abbrev mE (μ : Mem) : HD := μ.1
abbrev mD (μ : Mem) : Nat := μ.1.1
abbrev mC (μ : Mem) : Nat := μ.1.2.1
abbrev mS (μ : Mem) : Nat := μ.1.2.2.1
abbrev mV (μ : Mem) : Nat := μ.1.2.2.2.1
abbrev mB (μ : Mem) : Option Nat := μ.1.2.2.2.2
abbrev mW (μ : Mem) : Nat := μ.2.1
abbrev mN (μ : Mem) : Nat := μ.2.2.1
abbrev mF (μ : Mem) : Nat → Option ME := μ.2.2.2
def m_set (μ : Mem) (a : Nat) (e : ME) : Mem := (mE μ, mW μ, mN μ, va_up (mF μ) a (some e))
def m_push (μ : Mem) (e : ME) : Mem := (mE μ, mW μ, mN μ + 1, va_up (mF μ) (mN μ) (some e))
/-- values with their kinds -/
abbrev TV : Type := Int32 ⊕ Int64 ⊕ Option Nat
abbrev vI (x : Int32) : TV := .inl x
abbrev vL (x : Int64) : TV := .inr (.inl x)
abbrev vR (x : Option Nat) : TV := .inr (.inr x)
def tv (v : TV) : Value := match v with
  | .inl x => .int x
  | .inr (.inl x) => .long x
  | .inr (.inr x) => va_rf x
def tcat (v : TV) : Nat := match v with
  | .inl _ => 1
  | .inr (.inl _) => 2
  | .inr (.inr _) => 1
theorem tcat_eq (v : TV) : tcat v = (tv v).category := by
  match v with
  | .inl _ => rfl
  | .inr (.inl _) => rfl
  | .inr (.inr none) => rfl
  | .inr (.inr (some _)) => rfl
abbrev tvl (lv : List (Nat × TV)) : List (Nat × Value) := lv.map (fun q => (q.1, tv q.2))
theorem tv_get {lv : List (Nat × TV)} {j i : Nat} {v : TV} (h : lv[j]? = some (i, v)) : (tvl lv)[j]? = some (i, tv v) := by
  rw [List.getElem?_map, h]; rfl
theorem tv_at {ls : Array Slot} {nL : Nat} {lv : List (Nat × TV)} (hl : lv_has ls nL (tvl lv)) {j i : Nat} {v : TV} (h : lv[j]? = some (i, v)) : ls[i]? = some (.val (tv v)) := lv_at hl j (tv_get h)
def tv_s1 (i : Nat) (v : TV) (lv : List (Nat × TV)) : List (Nat × TV) := (i, v) :: lv.filter (fun q => !(q.1 == i) && !(q.1 + 1 == i && tcat q.2 == 2))
def tv_s2 (i : Nat) (v : TV) (lv : List (Nat × TV)) : List (Nat × TV) := (i, v) :: lv.filter (fun q => !(q.1 == i) && (!(q.1 == i + 1) && !(q.1 + 1 == i && tcat q.2 == 2)))
theorem tv_filt (f : Nat × TV → Bool) (g : Nat × Value → Bool) (h : ∀ q, f q = g (q.1, tv q.2)) (lv : List (Nat × TV)) : (tvl lv).filter g = tvl (lv.filter f) := by
  induction lv with
  | nil => rfl
  | cons a r ih =>
    show List.filter g ((a.1, tv a.2) :: tvl r) = tvl (List.filter f (a :: r))
    rw [List.filter_cons, List.filter_cons, h a, ih]
    split <;> rfl
theorem tv_s1_eq (i : Nat) (v : TV) (lv : List (Nat × TV)) : (i, tv v) :: (tvl lv).filter (fun q => !(q.1 == i) && !(q.1 + 1 == i && q.2.category == 2)) = tvl (tv_s1 i v lv) := by
  rw [tv_filt (fun q => !(q.1 == i) && !(q.1 + 1 == i && tcat q.2 == 2)) _ (fun q => by rw [tcat_eq])]
  rfl
theorem tv_s2_eq (i : Nat) (v : TV) (lv : List (Nat × TV)) : (i, tv v) :: (tvl lv).filter (fun q => !(q.1 == i) && (!(q.1 == i + 1) && !(q.1 + 1 == i && q.2.category == 2))) = tvl (tv_s2 i v lv) := by
  rw [tv_filt (fun q => !(q.1 == i) && (!(q.1 == i + 1) && !(q.1 + 1 == i && tcat q.2 == 2))) _ (fun q => by rw [tcat_eq])]
  rfl
def tv_args : Nat → List TV → List (Nat × TV)
  | _, [] => []
  | i, v :: r => (i, v) :: tv_args (i + tcat v) r
theorem tv_args_eq (i : Nat) (av : List TV) : lv_args i (av.map tv) = tvl (tv_args i av) := by
  induction av generalizing i with
  | nil => rfl
  | cons v r ih =>
    show lv_args i (tv v :: r.map tv) = (i, tv v) :: tvl (tv_args (i + tcat v) r)
    rw [← ih, tcat_eq]
    match v with
    | .inl _ => rfl
    | .inr (.inl _) => rfl
    | .inr (.inr none) => rfl
    | .inr (.inr (some _)) => rfl
theorem tv_len (av : List TV) : (lg_sl (av.map tv)).length = (av.map tcat).sum := by
  induction av with
  | nil => rfl
  | cons v r ih =>
    have e : lg_sl ((v :: r).map tv) = lg_sl [tv v] ++ lg_sl (r.map tv) := by
      simp [lg_sl]
    rw [e, List.length_append, ih]
    show _ = tcat v + (r.map tcat).sum
    congr 1
    match v with
    | .inl _ => rfl
    | .inr (.inl _) => rfl
    | .inr (.inr none) => rfl
    | .inr (.inr (some _)) => rfl
/-! what the heap holds -/
def mm_E (G : GG) (e : ME) : va_E := match e with
  | .inl x => .inl (G.2 x.1, x.2)
  | .inr o => .inr o
def MM (G : GG) (μ : Mem) (H : Heap) : Prop := H.size = mN μ ∧ ∀ (a : Nat) (e : ME), mF μ a = some e → va_at G.1 vwCl (a, mm_E G e) H
theorem MM.set {G : GG} {μ : Mem} {H H1 : Heap} (h : MM G μ H) {a : Nat} {e : ME} (he : va_at G.1 vwCl (a, mm_E G e) H1) (hz : H1.size = H.size) (oq : ∀ q : Nat, q ≠ a → H1[q]? = H[q]?) : MM G (m_set μ a e) H1 := by
  refine ⟨hz.trans h.1, fun b d hb => ?_⟩
  by_cases hba : b = a
  · subst hba
    have hd : e = d := Option.some.inj ((va_up_self (mF μ) b (some e)).symm.trans hb)
    subst hd
    exact he
  · exact (h.2 b d ((va_up_ne (mF μ) (some e) hba).symm.trans hb)).kept (oq b hba)
theorem MM.push {G : GG} {μ : Mem} {H H1 : Heap} (h : MM G μ H) {e : ME} (he : va_at G.1 vwCl (H.size, mm_E G e) H1) (hz : H1.size = H.size + 1) (oq : ∀ q : Nat, q < H.size → H1[q]? = H[q]?) : MM G (m_push μ e) H1 := by
  refine ⟨by rw [hz, h.1]; rfl, fun b d hb => ?_⟩
  by_cases hba : b = mN μ
  · subst hba
    have hd : e = d := Option.some.inj ((va_up_self (mF μ) (mN μ) (some e)).symm.trans hb)
    subst hd
    rw [h.1] at he
    exact he
  · have h2 := h.2 b d ((va_up_ne (mF μ) (some e) hba).symm.trans hb)
    exact h2.kept (oq b h2.lt)
/-! the tables -/
def ka_comp (U : State) (comp : ClassId) (ty : FieldType) : Prop := match ty with
  | .object C => U.vm.findClass C = some comp
  | .array t => U.vm.findClass (FieldType.array t).toString = some comp
  | _ => True
def KA (cA : ClassId) (U : State) (ty : FieldType) : Prop := ∃ (kA : Class) (comp : ClassId), U.vm.classes[cA]? = some kA ∧ kA.kind = .array comp ty ∧ U.vm.findClass ("[" ++ ty.toString) = some cA ∧ ka_comp U comp ty
theorem KA.moved {u U : State} (hvm : u.vm.Alike U.vm) {cA : ClassId} {ty : FieldType} (h : KA cA u ty) : KA cA U ty := by
  obtain ⟨kA, comp, h1, h2, h3, h4⟩ := h
  obtain ⟨k', hk', he⟩ := hvm.2.2 _ _ h1
  refine ⟨k', comp, hk', by rw [he]; exact h2, by rw [hvm.findClass]; exact h3, ?_⟩
  cases ty with
  | object C => show U.vm.findClass _ = some comp; rw [hvm.findClass]; exact h4
  | array t => show U.vm.findClass _ = some comp; rw [hvm.findClass]; exact h4
  | _ => trivial
theorem KA.arr {U : State} {cA : ClassId} {ty : FieldType} (h : KA cA U ty) : ArrOfT U cA ty := by
  obtain ⟨kA, comp, h1, h2, h3, h4⟩ := h
  exact fun n z => ⟨fun k h => (by cases h), kA, h1, comp, h2⟩
def KK (G : GG) (U : State) : Prop := (∀ (c : Nat) (q : vw_C), vwCl[c]? = some q → u_Kn U q.1 q.2.1 q.2.2 (G.1.1 c) (G.1.2 c)) ∧ ∀ (t : Nat) (ty : FieldType), aty[t]? = some ty → KA (G.2 t) U ty
theorem KK.moved {G : GG} {u U : State} (hvm : u.vm.Alike U.vm) (h : KK G u) : KK G U := ⟨fun c q hq => u_Kn_moved hvm (h.1 c q hq), fun t ty ht => (h.2 t ty ht).moved hvm⟩
theorem KK.va {G : GG} {U : State} (h : KK G U) : va_K G.1 vwCl [] U := ⟨h.1, fun k q hk => by simp at hk⟩
/-- the walk's own state -/
def WK (G : GG) (ed : HD) (lo : Nat) (s : State) (μ : Mem) (H : Heap) (locs : List Loc) : Prop := MM G μ H ∧ mE μ = ed ∧ mW μ = lo ∧ va_S (fun q => lo ≤ q) s.heap H locs
abbrev CX : Type := GG × HD × Nat × Program × Launch × Env × Room × State × MethodId × Array Value × List Frame × Method × Code × (State → Prop)
def xR (X : CX) : Room := X.2.2.2.2.2.2.1
def WM (X : CX) (nL pc : Nat) (lv : List (Nat × TV)) (st : List TV) (cells slots : Nat) (μ : Mem) : Prop := match X with
  | (G, ed, lo, p, l, e, R, s, m, args, below, meth, c, Q) => ∀ (H : Heap) (locs : List Loc) (ls : Array Slot), WK G ed lo s μ H locs → lv_has ls nL (tvl lv) → W p l e R s m args below meth c H locs cells slots Q (F0 m pc ls (st.map tv))
def EV (X : CX) (cc : ByteArray) (nL : Nat) (own : String) (ret : Option FieldType) : Prop := match X with
  | (G, ed, lo, p, l, e, R, s, m, args, below, meth, c, Q) => p.tables.exec = Jvm.exec ∧ c.code = cc ∧ c.maxLocals = nL ∧ s.vm.findClass own = some m.cls ∧ (∀ w ∈ GW, w.before args s = true) ∧ NN s ∧ KK G s ∧ OO ed lo s s.heap ∧ lo ≤ s.heap.size ∧ meth.locks = false ∧ meth.sig.returnType = ret
/-! contracts -/
def WD (G : GG) (μ : Mem) (U : State) : Prop := NN U ∧ KK G U ∧ OO (mE μ) (mW μ) U U.heap ∧ mW μ ≤ U.heap.size ∧ MM G μ U.heap
def PC (G : GG) (μ : Mem) (av : List TV) : Array Value → State → Prop := fun v U => v = (av.map tv).toArray ∧ WD G μ U
def QC (G : GG) (μ μ' : Mem) (v : Option TV) : Array Value → State → Outcome → State → Prop := fun _ st oc t => oc = .returned (v.map tv) ∧ WD G μ' t ∧ va_F (fun q => mW μ ≤ q) st t ∧ mE μ' = mE μ ∧ mW μ' = mW μ
abbrev CT (l : Launch) (G : GG) (y : MethodName) (cc : ByteArray) (maxL : Nat) (ret : Option FieldType) (fr mc ms lc : Nat) (μ : Mem) (av : List TV) (v : Option TV) (μ' : Mem) : Prop :=
  Met l y (Cond.code y cc maxL ret :: GW) { frames := fr, cells := mc, slots := ms, locals := lc } (PC G μ av) (QC G μ μ' v) mc ms (fun q => mW μ ≤ q)
/-- the walk's end, for a method that returns -/
def RQ (X : CX) (mc ms : Nat) (μ : Mem) (v : Option TV) (μ' : Mem) : Prop := match X with
  | (G, ed, lo, p, l, e, R, s, m, args, below, meth, c, Q) => ed = mE μ ∧ lo = mW μ ∧ ∀ t, MQ below (QC G μ μ' v) args s mc ms (fun q => mW μ ≤ q) t → Q t
theorem W.mono {p : Program} {l : Launch} {e : Env} {R : Room} {s : State} {m : MethodId} {args : Array Value} {below : List Frame} {meth : Method} {c : Code} {H : Heap} {locs : List Loc} {cells slots : Nat} {Q Q' : State → Prop} {g : JFrame} (h : ∀ t, Q t → Q' t) (k : W p l e R s m args below meth c H locs cells slots Q g) : W p l e R s m args below meth c H locs cells slots Q' g := by
  intro T hT X
  obtain ⟨t, a, b⟩ := k T hT X
  exact ⟨t, a, h t b⟩
theorem WD.same {G : GG} {μ : Mem} {u U : State} (hvm : u.vm = U.vm) (hh : U.heap = u.heap) (h : WD G μ u) : WD G μ U := by
  obtain ⟨h0, h1, h2, h3, h4⟩ := h
  have ha : u.vm.Alike U.vm := by rw [hvm]; exact Vm.Alike.refl _
  exact ⟨h0.same hvm, h1.moved ha, by rw [hh]; exact h2.same hvm, by rw [hh]; exact h3, by rw [hh]; exact h4⟩
/-- from the walk to the contract -/
theorem wm_met {l : Launch} {G : GG} {y : MethodName} {cc : ByteArray} {maxL : Nat} {ret : Option FieldType} {fr mc ms lc : Nat} {μ : Mem} {av : List TV} {v : Option TV} {μ' : Mem} (hy : plainFor y = true) (hn : (av.map tcat).sum ≤ maxL) {lv : List (Nat × TV)} (hlv : tv_args 0 av = lv)
    (k : ∀ X : CX, EV X cc maxL y.cls ret → RQ X mc ms μ v μ' → xR X = { frames := fr, cells := mc, slots := ms, locals := lc } → X.2.2.2.2.2.2.2.2.2.2.2.1.name = y.name → WM X maxL 0 lv [] 0 0 μ) : CT l G y cc maxL ret fr mc ms lc μ av v μ' := by
  refine va_MetF (cc := cc) (maxL := maxL) (ret := ret) hy rfl ?_
  intro p e s m args below meth c s₁ B hml hv
  obtain ⟨rfl, hN, hK, hO, hlo, hM⟩ := hv
  have hts := atoms_spec (ws := Cond.code y cc maxL ret :: GW) B.pre
  have K := k (G, mE μ, mW μ, p, l, e, { frames := fr, cells := mc, slots := ms, locals := lc }, s, m, (av.map tv).toArray, below, meth, c, MQ below (QC G μ μ' v) (av.map tv).toArray s mc ms (fun q => mW μ ≤ q))
    ⟨B.exec, B.bytes, hml, findClass_of_methodNamed B.named, fun w hw => hts w (List.mem_cons_of_mem _ hw), hN, hK, hO, hlo, B.notSynchronized, B.returns⟩ ⟨rfl, rfl, fun _ h => h⟩ rfl
    (name_of_methodNamed B.named B.method).1
  rw [lg_entry_eq]
  have hl := lv_entry (av.map tv) (n := maxL) (by rw [tv_len]; exact hn)
  rw [tv_args_eq, hlv] at hl
  exact K s.heap [] _ ⟨hM, rfl, rfl, va_S.rf⟩ hl
