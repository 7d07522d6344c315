/-! what holds at the law's entry -/
def R_law : String := "PlaceFinderLaw"
def lw_At (p : Program) (s : State) (m : MethodId) (meth : Method) (c : Code) (b L : Nat) (xs : Nat → Int32) : Prop :=
  p.tables.exec = Jvm.exec ∧ c.code = code ∧ meth.sig.returnType = ret ∧ c.maxLocals = 7 ∧ s.vm.findClass R_law = some m.cls ∧ (∀ w ∈ lw_tbl, w.before #[Value.ref b] s = true) ∧ va_X b L xs s s.heap ∧ b < s.heap.size ∧ meth.locks = false ∧ (Jvm.Cond.and given_1 narrow_1).before #[Value.ref b] s = true
theorem nw_of {w : Cond} (hw : nwOK w = true) {A : Array Value} {U : State} (h : w.before A U = true) : va_Nw w U := by
  unfold nwOK at hw
  split at hw
  · exact va_Nw.of rfl h
  · exact va_Nw.of rfl h
  · exact va_Nw.of rfl h
  · exact va_Nw.of rfl h
  · exact va_AO.of h
  · exact h
  · cases hw
theorem kn_all {s : State} {args : Array Value} (hts : ∀ w ∈ GW, w.before args s = true) : ∀ ci : Nat, ∃ q : ClassId × (Nat → Nat), ∀ r, vwCl[ci]? = some r → u_Kn s r.1 r.2.1 r.2.2 q.1 q.2 := by
  intro ci
  match ci with
  | 0 => obtain ⟨c, f, h⟩ := u_known hts uw_Al (hts _ ib_Al); exact ⟨(c, f), fun r hr => by cases hr; exact h⟩
  | 1 => obtain ⟨c, f, h⟩ := u_known hts uw_Cn (hts _ ib_Cn); exact ⟨(c, f), fun r hr => by cases hr; exact h⟩
  | 2 => obtain ⟨c, f, h⟩ := u_known hts uw_Co (hts _ ib_Co); exact ⟨(c, f), fun r hr => by cases hr; exact h⟩
  | 3 => obtain ⟨c, f, h⟩ := u_known hts uw_Ec (hts _ ib_Ec); exact ⟨(c, f), fun r hr => by cases hr; exact h⟩
  | 4 => obtain ⟨c, f, h⟩ := u_known hts uw_Hi (hts _ ib_Hi); exact ⟨(c, f), fun r hr => by cases hr; exact h⟩
  | 5 => obtain ⟨c, f, h⟩ := u_known hts uw_Li (hts _ ib_Li); exact ⟨(c, f), fun r hr => by cases hr; exact h⟩
  | 6 => obtain ⟨c, f, h⟩ := u_known hts uw_Na (hts _ ib_Na); exact ⟨(c, f), fun r hr => by cases hr; exact h⟩
  | 7 => obtain ⟨c, f, h⟩ := u_known hts uw_Pl (hts _ ib_Pl); exact ⟨(c, f), fun r hr => by cases hr; exact h⟩
  | 8 => obtain ⟨c, f, h⟩ := u_known hts uw_Rs (hts _ ib_Rs); exact ⟨(c, f), fun r hr => by cases hr; exact h⟩
  | 9 => obtain ⟨c, f, h⟩ := u_known hts uw_Wa (hts _ ib_Wa); exact ⟨(c, f), fun r hr => by cases hr; exact h⟩
  | 10 => obtain ⟨c, f, h⟩ := u_known hts uw_Wo (hts _ ib_Wo); exact ⟨(c, f), fun r hr => by cases hr; exact h⟩
  | 11 => obtain ⟨c, f, h⟩ := u_known hts uw_P (hts _ ib_P); exact ⟨(c, f), fun r hr => by cases hr; exact h⟩
  | 12 => obtain ⟨c, f, h⟩ := u_known hts uw_M (hts _ ib_M); exact ⟨(c, f), fun r hr => by cases hr; exact h⟩
  | n + 13 => exact ⟨(0, id), fun r hr => by simp at hr⟩
theorem ka_prim {s : State} {args : Array Value} {ty : FieldType} (hty : ∀ U comp, ka_comp U comp ty) (h : (Cond.arrayClass ty).before args s = true) : ∃ cA, KA cA s ty := by
  obtain ⟨c, k, comp, h1, h2, h3⟩ := Cond.arrayClass_spec h
  exact ⟨c, k, comp, h2, h3, h1, hty _ _⟩
theorem ka_obj {s : State} {args : Array Value} {C : String} (h : (Cond.arrayOver (.object C)).before args s = true) : ∃ cA, KA cA s (.object C) := by
  obtain ⟨comp, c, k, h1, -, h3, h4, h5⟩ := Cond.arrayOver_spec h
  exact ⟨c, k, comp, h3, h4, h5, h1⟩
theorem ka_arr {s : State} {args : Array Value} {t : FieldType} (h : (Cond.arrayOver (.array t)).before args s = true) : ∃ cA, KA cA s (.array t) := by
  obtain ⟨comp, c, k, h1, h3, h4, h5⟩ := Cond.arrayOver_specA h
  exact ⟨c, k, comp, h3, h4, h5, h1⟩
theorem ka_all {s : State} {args : Array Value} (hts : ∀ w ∈ lw_tbl, w.before args s = true) : ∀ t : Nat, ∃ cA : ClassId, ∀ ty, aty[t]? = some ty → KA cA s ty := by
  intro t
  match t with
  | 0 => obtain ⟨c, h⟩ := ka_prim (ty := .int) (fun _ _ => trivial) (hts (.arrayClass .int) (by decide +kernel)); exact ⟨c, fun ty hty => by cases hty; exact h⟩
  | 1 => obtain ⟨c, h⟩ := ka_prim (ty := .long) (fun _ _ => trivial) (hts (.arrayClass .long) (by decide +kernel)); exact ⟨c, fun ty hty => by cases hty; exact h⟩
  | 2 => obtain ⟨c, h⟩ := ka_prim (ty := .char) (fun _ _ => trivial) (hts (.arrayClass .char) (by decide +kernel)); exact ⟨c, fun ty hty => by cases hty; exact h⟩
  | 3 => obtain ⟨c, h⟩ := ka_prim (ty := .boolean) (fun _ _ => trivial) (hts (.arrayClass .boolean) (by decide +kernel)); exact ⟨c, fun ty hty => by cases hty; exact h⟩
  | 4 => obtain ⟨c, h⟩ := ka_obj (hts (.arrayOver (.object "java/lang/Object")) (by decide +kernel)); exact ⟨c, fun ty hty => by cases hty; exact h⟩
  | 5 => obtain ⟨c, h⟩ := ka_obj (hts (.arrayOver (.object "PlaceFinder$Watch")) (by decide +kernel)); exact ⟨c, fun ty hty => by cases hty; exact h⟩
  | 6 => obtain ⟨c, h⟩ := ka_arr (hts (.arrayOver (.array .int)) (by decide +kernel)); exact ⟨c, fun ty hty => by cases hty; exact h⟩
  | n + 7 => exact ⟨0, fun ty hty => by simp [aty] at hty⟩
theorem zl_of {s : State} {args : Array Value} {C n d : String} {A : Nat → Prop} (hl : (Cond.laysStatic C n d).before args s = true) (hr : (Cond.isRef (.static C n d)).before args s = true) (hA : ∀ a : Nat, a < s.heap.size → ¬ A a) : ZL C n d A s s.heap := by
  obtain ⟨c, k, i, f, a, cell, h1, h2, h3, h4, h5, h6, h7, h8, h9⟩ := Cond.laysStatic_spec hl
  obtain ⟨v, hv, hvr⟩ := Cond.isRef_spec hr
  obtain ⟨-, a', cell', ha', hcell', -, hslot⟩ := Term.static_spec h2 hv
  cases h4.symm.trans ha'
  cases h5.symm.trans hcell'
  exact ⟨c, k, i, f, a, cell, v, h1, h2, h3, h4, h5, h6, h7, h8, h9, hslot, hvr, hA a (Array.getElem?_eq_some_iff.mp h5).1⟩
theorem nc_of {s : State} {args : Array Value} {C T : String} (h : (Cond.not (.castable C T)).before args s = true) : NC C T s := by
  have hv := Cond.holds_not_iff.mp h
  simp only [Cond.value] at hv
  cases h1 : s.vm.findClass C with
  | none => simp [h1] at hv
  | some c =>
    cases h2 : s.vm.findClass T with
    | none => simp [h1, h2] at hv
    | some t =>
      simp only [h1, h2] at hv
      exact ⟨c, t, h1, h2, Option.some.inj hv⟩
set_option maxHeartbeats 8000000 in
set_option maxRecDepth 100000 in
theorem lw_entry {p : Program} {s : State} {m : MethodId} {meth : Method} {c : Code} {b L : Nat} {xs : Nat → Int32} (C0 : lw_At p s m meth c b L xs) : ∃ (G : GG) (hd : HD), NN s ∧ KK G s ∧ OO hd s.heap.size s s.heap ∧ ∀ w ∈ GW, w.before #[Value.ref b] s = true := by
  obtain ⟨hx, hb, hr, hml, hown, hts, hX, hbl, hlk, hgv⟩ := C0
  have hs := flat_of_before _ hgv
  have htg : ∀ w ∈ GW, w.before #[Value.ref b] s = true := fun w hw => hts w (List.mem_filter.mp hw).1
  have hA : ∀ a : Nat, a < s.heap.size → ¬ (s.heap.size ≤ a) := fun a h => Nat.not_le.mpr h
  obtain ⟨f, hf⟩ := Classical.axiomOfChoice (kn_all htg)
  obtain ⟨g, hg⟩ := Classical.axiomOfChoice (ka_all hts)
  obtain ⟨tD, hD1, hD2⟩ := va_Tof (N := 0) (tm := .static "java/util/ArrayList" "DEFAULTCAPACITY_EMPTY_ELEMENTDATA" "[Ljava/lang/Object;") (ty := .object "java/lang/Object") (f := fun _ => .null) (A := fun q => s.heap.size ≤ q) (by decide) (hs _ (by decide +kernel)) (va_eqt (hs _ (by decide +kernel))) (fun j hj => absurd hj (Nat.not_lt_zero j)) hA
  obtain ⟨mi, hmi⟩ := va_Mi.of (C := "[Ljava/lang/Object;") (hs _ (by decide +kernel))
  obtain ⟨adK, adV, hvS, hvE⟩ := vk_Sof (args := #[Value.ref b]) (s := s) (N := 1) (tm := fun _ => .string "PlaceFinder$Word" 29) (len := [26]) (byt := [scb]) (A := fun q => s.heap.size ≤ q)
    (fun i hi => by rw [show i = 0 by omega]; decide) (fun _ _ => hs _ (by decide +kernel)) (fun _ _ => hs _ (by decide +kernel)) (fun _ _ => hs _ (by decide +kernel)) (fun i hi => by rw [show i = 0 by omega]; exact hs _ (by decide +kernel))
    (fun i hi j hj => by
      have hi0 : i = 0 := by omega
      subst hi0
      have hj : j < 26 := hj
      have hall : ∀ j, j < 26 → (Cond.eq (.elem (.field (.string "PlaceFinder$Word" 29) "java/lang/String" "value" "[B") (.int (Int32.ofNat j))) (.int (([scb].getD 0 []).getD j 0))) ∈ flatC (Jvm.Cond.and given_1 narrow_1) := by decide +kernel
      exact hs _ (hall j hj))
    (fun i j hi hj hij => by omega) hA
  have hfm : ∃ fm : Option Nat, va_Z "jdk/internal/util/Preconditions" "SIOOBE_FORMATTER" "Ljava/util/function/BiFunction;" (va_rf fm) (fun q => s.heap.size ≤ q) s s.heap := by
    rcases va_Zqof (A := fun q => s.heap.size ≤ q) (C := "jdk/internal/util/Preconditions") (n := "SIOOBE_FORMATTER") (d := "Ljava/util/function/BiFunction;") (hts _ (by decide +kernel)) (hts _ (by decide +kernel)) (hs _ (by decide +kernel)) hA with h | ⟨t, h⟩
    · exact ⟨none, h⟩
    · exact ⟨some t, h⟩
  obtain ⟨fm, hfm⟩ := hfm
  have hv0 := hvS.1 0 (by decide)
  have hPF : ∃ cP, s.vm.findClass "PlaceFinder" = some cP := ⟨_, (hf 11 _ rfl).2.1⟩
  obtain ⟨cP, hPF⟩ := hPF
  refine ⟨((fun ci => (f ci).1, fun ci => (f ci).2), g), (tD, mi, adK 0, adV 0, fm), fun w hw => nw_of (List.mem_filter.mp hw).2 (hts w (List.mem_filter.mp hw).1), ⟨fun ci q hq => hf ci q hq, fun t ty ht => hg t ty ht⟩, ⟨⟨?_, hD2, hmi, hv0.1, hv0.2.1, hv0.2.2.1, hv0.2.2.2, ?_, ?_, ?_, hfm⟩, ?_, ?_, ?_⟩, htg⟩
  · exact va_Zref (hts _ (by decide +kernel)) (hts _ (by decide +kernel)) hD1 hA
  · exact va_Zof (hts _ (by decide +kernel)) (hts _ (by decide +kernel)) (va_eqi (hs _ (by decide +kernel))) hA
  · exact zl_of (hts _ (by decide +kernel)) (hs _ (by decide +kernel)) hA
  · exact zl_of (hts _ (by decide +kernel)) (hs _ (by decide +kernel)) hA
  · exact vk_R.of (A := #[Value.ref b]) (hts _ (by decide +kernel)) (hvE 0 (by decide))
  · intro q hq
    have hall : ∀ q ∈ srefs, q.1 = "PlaceFinder" ∧ Cond.stringRef q.1 q.2.1 q.2.2 ∈ lw_tbl := by decide +kernel
    obtain ⟨h1, h2⟩ := hall q hq
    have hw := hts _ h2
    rw [h1] at hw
    obtain ⟨k, cf, i, a, -, -, -, -, -, hev⟩ := Cond.stringRef_spec hPF hw
    refine ⟨a, ?_⟩
    rw [h1]
    exact vk_R.of (A := #[Value.ref b]) hw hev
  · have hall : ∀ q ∈ ncs, Cond.not (.castable q.1 q.2) ∈ flatC (Jvm.Cond.and given_1 narrow_1) := by decide +kernel
    exact fun q hq => nc_of (hs _ (hall q hq))
theorem lf_of {l : Launch} (h : l.flags = flags0) : LF l := by
  intro e he
  have h1 := he.2.2.2.2.1
  rw [h1]
  show l.stackTraces = false
  unfold Launch.stackTraces
  rw [h]
  decide +kernel
