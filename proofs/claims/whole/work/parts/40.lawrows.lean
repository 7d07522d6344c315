/-! rows of the law -/
def LKW (own : String) (index : Nat) (y : MethodName) (bytes : ByteArray) (maxL : Nat) (r : Option FieldType) (hh : List (Nat × Nat × Nat × Nat)) (n : Nat) : Prop := Cond.codeWith y bytes maxL r hh ∈ GW ∧ Cond.initialized y.cls ∈ GW ∧ Cond.methodLink own index y ∈ GW ∧ Cond.static y ∈ GW ∧ (y.cls ≠ "java/lang/invoke/MethodHandle" ∧ y.cls ≠ "java/lang/invoke/VarHandle" ∧ (parseMethodDescriptor y.desc).map (fun d => d.parameters.length) = some n)
/-- the law's context: the script xs of L ints at sb, and the floor -/
def SX (X : CX) (sb L : Nat) (xs : Nat → Int32) : Prop := match X with
  | (G, ed, lo, p, l, e, R, s, m, args, below, meth, c, Q) => va_X sb L xs s s.heap ∧ sb < s.heap.size ∧ lo = s.heap.size
def LR (X : CX) : Prop := match X with
  | (G, ed, lo, p, l, e, R, s, m, args, below, meth, c, Q) => lo = s.heap.size ∧ R.cells = 601024 ∧ R.slots = 7293034 ∧ ∀ (pc : Nat) (H : Heap) (ls : Array Slot), decode code pc = .ok (.ireturn, 1) → W p l e R s m args below meth c H [] 601024 7293034 Q (F0 m pc ls [.int 1])
section
variable {X : CX} {cc : ByteArray} {nL pc : Nat} {own : String} {ret : Option FieldType} {lv : List (Nat × TV)} {st : List TV} {cells slots : Nat} {μ : Mem} {β : Type} {res : β}
theorem wm_cSW (E : EV X cc nL own ret) {y : MethodName} {bytes : ByteArray} {maxL index n : Nat} {r' : Option FieldType} {hh : List (Nat × Nat × Nat × Nat)} {fr mc ms lc : Nat} {As : List TV} {v : Option TV} {M : Mem → Prop} {st0 : List TV} (hL : LKW own index y bytes maxL r' hh n)
    (hM : CW (xl X) X.1 y bytes maxL r' hh fr mc ms lc μ As v M) (hn : As.length = n) (hst : st0 = As.reverse ++ st) (hR : fr + 1 ≤ (xR X).frames ∧ 8 + (maxL + 11) + lc ≤ (xR X).locals) (hf : cells + mc ≤ (xR X).cells ∧ slots + ms ≤ (xR X).slots) (hsm : (st.map tcat).sum ≤ 8) (hdg : decode cc pc = .ok (.invokestatic index, 3))
    (kk : ∀ μ', M μ' → WM X nL (pc + 3) lv (v.toList ++ st) (cells + mc) (slots + ms) μ') : WM X nL pc lv st0 cells slots μ := by
  subst hst
  obtain ⟨hcode, hini, hlink, hsta, hd⟩ := hL
  obtain ⟨G, ed, lo, p, l, e, R, s, m, args, below, meth, c, Q⟩ := X
  obtain ⟨hx, hb, hml, hown, hts, hN, hK, hO, hlo, hlk, hret⟩ := E
  have hM : CW l G y bytes maxL r' hh fr mc ms lc μ As v M := hM
  intro H locs ls hw hl
  have hG : GoodIn GW (Cond.codeWith y bytes maxL r' hh :: GW) := by
    intro w hw
    rcases List.mem_cons.mp hw with rfl | hw
    · exact ⟨hcode, good_of_word (GW_good _ hcode)⟩
    · exact ⟨hw, good_of_word (GW_good _ hw)⟩
  have hBk : Back l R p e below s args y 3 8 (PreOf R mc ms (PC G μ As)) (PostOf (QM G μ v M) mc ms (fun q => mW μ ≤ q)) := va_backW (hh := hh) (bytes := bytes) (maxL := maxL) (ret := r') hM pc_blind rfl rfl hR.1 hR.2 (pay_in hts hG) List.mem_cons_self (fun a' U hW => word_at hW (Or.inl (by first | rfl | simp [Cond.onTables, Cond.keeps, Cond.steady])) (hts _ hini))
  intro T hT X
  obtain ⟨mk, methM, cM, hnamed, hmethM, -, -, -, -, -, -, hsigM⟩ := Cond.codeWith_spec (hts _ hcode)
  have hstatic : methM.isStatic = true := Cond.static_spec hnamed hmethM (hts _ hsta)
  obtain ⟨kP, hkP, -⟩ := className_of_methodNamed hnamed
  have hinitP : kP.init = .initialized := Cond.initialized_spec (findClass_of_methodNamed hnamed) hkP (hts _ hini)
  have hlen : (As.map tv).length = methM.sig.parameters.length := by
    have h2 := hd.2.2
    rw [hsigM] at h2
    rw [List.length_map, hn]
    exact (Option.some.inj h2).symm
  have hsum := cat_sum st hsm
  obtain ⟨vm₁, X₁, hstep₁⟩ := X.invokestatic hx hown (hts _ hlink) hnamed hmethM hstatic hkP hinitP ⟨hd.1, hd.2.1⟩ (g := F0 m pc ls ((As.reverse ++ st).map tv)) rfl (argsL := As.map tv) (rest := st.map tv) hlen (by show (As.reverse ++ st).map tv = _; rw [List.map_append, List.map_reverse]) (by rw [hb]; exact hdg)
  obtain ⟨v1, ⟨U', l2, c2', s2'⟩, X', hpost, hsteps⟩ := hBk m meth c ⟨T.setVm vm₁, locs, cells, slots⟩ { F0 m pc ls ((As.reverse ++ st).map tv) with stack := st.map tv } (.invokestatic index) mk (As.map tv).toArray X₁ rfl (hl.1.trans hml.symm) (by rw [hb]; exact hdg) (lv_room hsum) (X₁.named hnamed) ⟨hf.1, hf.2, rfl, wd_at hN hK hO hlo hw (T.setVm vm₁) hT X₁.warmed⟩
  obtain ⟨g9, mk9, t, L, e1, e2, ⟨μ', hMm, hv, hWD, ⟨hz, hk⟩, hE, hW⟩, h1, hL9, h2, h3⟩ := hpost
  dsimp only [Pt.U, Pt.locs, Pt.cells, Pt.slots] at X' e1 e2 h1 h2 h3 hsteps
  subst h1; subst h2; subst h3
  have hv1 : v1 = v.map tv := Outcome.returned.inj hv
  subst hv1
  have hTh : ((T.setVm vm₁).calling g9 mk9 (As.map tv).toArray).heap = H := hT
  rw [hTh] at hz hk
  have kk := kk μ' hMm
  have kk2 : ∀ H1 locs1, WK G ed lo s μ' H1 locs1 → W p l e R s m args below meth c H1 locs1 (cells + mc) (slots + ms) Q (F0 m (pc + 3) ls ((v.map tv).toList ++ st.map tv)) := by
    intro H1 locs1 hw1
    have := kk H1 locs1 ls hw1 hl
    rw [List.map_append] at this
    cases v <;> exact this
  obtain ⟨t2, a1, b1⟩ := kk2 U'.heap (locs ++ L) ⟨by rw [e1]; exact hWD.2.2.2.2, hE.trans hw.2.1, hW.trans hw.2.2.1, ⟨Nat.le_trans hw.2.2.2.1 (by rw [e1]; exact hz), fun q h1 h2 => by
      rw [e1, hk q (Nat.lt_of_lt_of_le h1 hw.2.2.2.1) (by rw [hw.2.2.1]; exact h2)]
      exact hw.2.2.2.2.1 q h1 h2, fun q hq => by
      rcases List.mem_append.mp hq with h | h
      · exact hw.2.2.2.2.2 q h
      · show lo ≤ q.base
        rw [← hw.2.2.1]
        exact hL9 q h⟩⟩ U' rfl X'
  exact ⟨t2, hstep₁ _ fun acts => by rw [doInvoke_state]; exact hsteps.trans a1, b1⟩
theorem wm_sld (E : EV X cc nL own ret) {sb L : Nat} {xs : Nat → Int32} (hS : SX X sb L xs) {i : Int32} (hi : ¬ (i < 0 ∨ L ≤ i.toNatClampNeg)) (hdg : decode cc pc = .ok (.iaload, 1)) (kk : WM X nL (pc + 1) lv (vI (xs i.toNatClampNeg) :: st) cells slots μ) : WM X nL pc lv (vI i :: vR (some sb) :: st) cells slots μ := by
  obtain ⟨G, ed, lo, p, l, e, R, s, m, args, below, meth, c, Q⟩ := X
  obtain ⟨hx, hb, hml, hown, hts, hN, hK, hO, hlo, hlk, hret⟩ := E
  obtain ⟨h1, h2, h3⟩ := hS
  intro H locs ls hw hl
  exact va_sld (A := fun q => lo ≤ q) hx hb h1 h2 (by rw [h3]; exact Nat.not_le.mpr h2) hw.2.2.2 hi hdg (kk H locs ls hw hl)
theorem wm_slen (E : EV X cc nL own ret) {sb L : Nat} {xs : Nat → Int32} (hS : SX X sb L xs) (hdg : decode cc pc = .ok (.arraylength, 1)) (kk : WM X nL (pc + 1) lv (vI (Int32.ofNat L) :: st) cells slots μ) : WM X nL pc lv (vR (some sb) :: st) cells slots μ := by
  obtain ⟨G, ed, lo, p, l, e, R, s, m, args, below, meth, c, Q⟩ := X
  obtain ⟨hx, hb, hml, hown, hts, hN, hK, hO, hlo, hlk, hret⟩ := E
  obtain ⟨h1, h2, h3⟩ := hS
  intro H locs ls hw hl
  exact va_slen (A := fun q => lo ≤ q) hx hb h1 h2 (by rw [h3]; exact Nat.not_le.mpr h2) hw.2.2.2 hdg (kk H locs ls hw hl)
theorem wm_lawret (hR : LR X) {x : Int32} (hx1 : x = 1) (hc : cells ≤ 601024) (hs : slots ≤ 7293034) (hdg : decode code pc = .ok (.ireturn, 1)) : WM X nL pc lv [vI x] cells slots μ := by
  subst hx1
  obtain ⟨G, ed, lo, p, l, e, R, s, m, args, below, meth, c, Q⟩ := X
  obtain ⟨h1, h2, h3, h4⟩ := hR
  intro H locs ls hw hl
  refine W.widen hc hs ?_
  intro T hT X
  have X2 : Stand p l e R s m args below meth c T ([] ++ locs) 601024 7293034 := by simpa using X
  have X3 := X2.dropFresh (fun x hx => by rw [← h1]; exact hw.2.2.2.2.2 x hx)
  exact h4 pc H ls hdg T hT X3
end
/-! what a call of a wrapper asks: it goes through, or it throws and is caught -/
def WC {α : Type} (S : Mem → Option (Int32 × Mem)) (T : Mem → Option ((Nat ⊕ α) × Mem)) (codes : List (Nat × Int32)) (c : Option Nat) (b : Nat) (ρ : RS) (μ : Mem) (K : Int32 → Mem → Prop) : Prop :=
  (∃ r μ', S (ov b ρ μ) = some (r, μ') ∧ ov b ρ μ' = μ' ∧ K r μ') ∨ (∃ ex μx k, T (m_up (ov b ρ μ)) = some (.inl ex, μx) ∧ rc (ov b ρ μ) c 11 = some () ∧ (ex, k) ∈ codes ∧ ∀ M, mN μ ≤ M → K k (m_grow μ M))
theorem ov_grow (b : Nat) (ρ : RS) (μ : Mem) (M : Nat) : m_grow (ov b ρ μ) M = ov b ρ (m_grow μ M) := rfl
