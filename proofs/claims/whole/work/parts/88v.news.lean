/-! news -/
theorem bt_s : ∀ k : Fin 30, ((Int32.ofNat k.1 &&& 31).toBitVec.smod 32 : BitVec 32) = BitVec.ofNat 32 k.1 ∧ ((1 : Int32) <<< (Int32.ofNat k.1 &&& 31)).toBitVec = BitVec.twoPow 32 k.1 := by decide
theorem bt_n : ∀ k : Fin 30, ¬ ((1 : Int32) <<< (Int32.ofNat k.1 &&& 31)).toBitVec = (0 : Int32).toBitVec := by decide
/-- a bit is tested by a mask or by a shift -/
theorem bit_test (x : Int32) {k : Nat} (hk : k < 30) : (x &&& (1 <<< (i32 k &&& 31)) = 0) ↔ ((x >>> (i32 k &&& 31)) &&& 1 = 0) := by
  show (x &&& (1 <<< (Int32.ofNat k &&& 31)) = 0) ↔ ((x >>> (Int32.ofNat k &&& 31)) &&& 1 = 0)
  obtain ⟨e1, e2⟩ := bt_s ⟨k, hk⟩
  rw [← Int32.toBitVec_inj, ← Int32.toBitVec_inj, Int32.toBitVec_and, Int32.toBitVec_and, Int32.toBitVec_shiftRight]
  have e1' : ((Int32.ofNat k &&& 31).toBitVec.smod 32 : BitVec 32) = BitVec.ofNat 32 k := e1
  have e2' : ((1 : Int32) <<< (Int32.ofNat k &&& 31)).toBitVec = BitVec.twoPow 32 k := e2
  rw [e2', BitVec.and_twoPow]
  rw [show (Int32.toBitVec 1) = 1#32 from rfl, BitVec.and_one_eq_setWidth_ofBool_getLsbD]
  have e3 : (x.toBitVec.sshiftRight' ((Int32.ofNat k &&& 31).toBitVec.smod 32)).getLsbD 0 = x.toBitVec.getLsbD k := by
    rw [e1']
    show (x.toBitVec.sshiftRight (BitVec.ofNat 32 k).toNat).getLsbD 0 = _
    rw [BitVec.getLsbD_sshiftRight, BitVec.toNat_ofNat, Nat.mod_eq_of_lt (by omega), if_pos (by omega)]
    simp
  rw [e3]
  cases x.toBitVec.getLsbD k
  · exact ⟨fun _ => by decide, fun _ => rfl⟩
  · refine ⟨fun q => absurd q ?_, fun q => absurd q (by decide)⟩
    rw [if_pos rfl, ← e2']
    exact bt_n ⟨k, hk⟩
def hiR (ρ ρ' : RS) : Prop := frR ρ ρ' ∧ ra ρ' 35 = ra ρ 35 ∧ ri ρ' 0 = ri ρ 0
theorem hiR.rf (ρ : RS) : hiR ρ ρ := ⟨⟨⟨rfl, rfl, rfl⟩, fun _ _ => rfl⟩, rfl, rfl⟩
theorem hiR.tr {a b c : RS} (h : hiR a b) (k : hiR b c) : hiR a c := ⟨⟨⟨k.1.1.1.trans h.1.1.1, k.1.1.2.1.trans h.1.1.2.1, k.1.1.2.2.trans h.1.1.2.2⟩, fun j hj => (k.1.2 j hj).trans (h.1.2 j hj)⟩, k.2.1.trans h.2.1, k.2.2.trans h.2.2⟩
theorem scR.hi {ρ ρ' : RS} (e : scR ρ ρ') : hiR ρ ρ' := ⟨e.fr, e.a 35, e.i 0⟩
theorem hiR.ins (ρ : RS) (F : Nat → Int32) (x : Int32) : hiR ρ (rpI (rset ρ 37 F) 36 x) := ⟨⟨⟨rfl, rfl, rfl⟩, fun j hj => va_up_ne _ _ (by omega)⟩, rfl, rfl⟩
def WNq (r : Nat) : Prop := WMt r ∨ WH r
theorem WNq.no {q : Nat} (h : q < 11 ∨ q = 14 ∨ (15 < q ∧ q < 20) ∨ 31 ≤ q) : ¬ WNq q := fun z => by unfold WNq WMt WH at z; omega
/-- a hit is put in on both sides -/
theorem hit_add {ro : Nat → Nat} {μ : Mem} {ρ : RS} {H an ak n k : Nat} {κ : Nat → Int64} {h : Nat → Nat} {order : Int32} (hL : HL ro μ H an ak n (ra ρ 37) κ h k) (h36 : ri ρ 36 = i32 n) (hk : k < 30) (w : WF μ) (lo : LO μ) (hc : ∀ F' j, j < n → ∃ c : Int32, R_M_compareKeys (i32 (h j)) (i32 k) order (rset ρ 37 F') = some c ∧ (c ≤ 0 ↔ ¬ κ k < κ (h j))) : ∃ (μ' : Mem) (F : Nat → Int32) (h' : Nat → Nat), S_Hi_add (some H) (i32 k) (κ k) μ = some ((), μ') ∧ R_M_insert (i32 k) order ρ = some ((), rpI (rset ρ 37 F) 36 (i32 (n + 1))) ∧ Ext WH ro μ ro μ' ∧ HL ro μ' H an ak (n + 1) F κ h' (k + 1) ∧ ∀ j, j < n + 1 → h' j = k ∨ ∃ j', j' < n ∧ h' j = h j' := by
  obtain ⟨μ', p, a1, a2, a3, a4⟩ := hL.add hk w lo
  have hn := hL.1
  have hR := R_insert_eq (ρ := ρ) (id := k) (n := n) (order := order) (gt := fun j => decide (κ k < κ (h j))) (by omega) h36 (fun F' j hj => by
    rw [(hL.2.2.2.2 j hj).1]
    obtain ⟨cc, e1, e2⟩ := hc F' j hj
    exact ⟨cc, e1, e2.trans (by rw [decide_eq_false_iff_not])⟩)
  refine ⟨μ', _, _, a1, by rw [hR, ← a3], a2, a4, fun j hj => ?_⟩
  unfold shA
  by_cases c1 : j < p
  · rw [if_pos c1]
    have := posF_le (fun j => decide (κ k < κ (h j))) n
    exact .inr ⟨j, by omega, rfl⟩
  · rw [if_neg c1]
    by_cases c2 : j = p
    · rw [if_pos c2]
      exact .inl rfl
    · rw [if_neg c2, if_pos (by omega)]
      exact .inr ⟨j - 1, by omega, rfl⟩
theorem hL0 {ro : Nat → Nat} {μ : Mem} {H an ak : Nat} {f : Nat → Int32} {g : Nat → Int64} (Hs : Nat → Int32) (κ : Nat → Int64) (h1 : Is ro μ H 11 (.inr (4, [.ref an, .ref ak, .int (i32 0)]))) (h2 : Is ro μ an 12 (.inl (0, 30, .inl f))) (h3 : Is ro μ ak 13 (.inl (1, 30, .inr (.inl g)))) : HL ro μ H an ak 0 Hs κ (fun _ => 0) 0 := ⟨Nat.le_refl _, h1, ⟨f, h2, fun j hj => absurd hj (Nat.not_lt_zero j)⟩, ⟨g, h3, fun j hj => absurd hj (Nat.not_lt_zero j)⟩, fun j hj => absurd hj (Nat.not_lt_zero j)⟩
theorem HL.ext {W : Nat → Prop} {ro : Nat → Nat} {μ μ' : Mem} {H an ak n k : Nat} {Hs : Nat → Int32} {κ : Nat → Int64} {h : Nat → Nat} (hL : HL ro μ H an ak n Hs κ h k) (e : Ext W ro μ ro μ') (h1 : ¬ W 11) (h2 : ¬ W 12) (h3 : ¬ W 13) : HL ro μ' H an ak n Hs κ h k := by
  obtain ⟨m1, m2, ⟨f, m3, m4⟩, ⟨g, m5, m6⟩, m7⟩ := hL
  exact ⟨m1, m2.ext e h1, ⟨f, m3.ext e h2, m4⟩, ⟨g, m5.ext e h3, m6⟩, m7⟩
theorem HL.ih {ro : Nat → Nat} {μ : Mem} {ρ : RS} {H an ak n k : Nat} {κ : Nat → Int64} {h : Nat → Nat} (hL : HL ro μ H an ak n (ra ρ 37) κ h k) (h36 : ri ρ 36 = i32 n) (hk : k ≤ 30) : IH ro μ ρ H := by
  obtain ⟨m1, m2, ⟨f, m3, m4⟩, ⟨g, m5, m6⟩, m7⟩ := hL
  exact ⟨an, ak, n, f, g, m2, h36, by omega, m3, m5, m4⟩
theorem IW1.hi {ro : Nat → Nat} {μ : Mem} {ρ ρ' : RS} {N w : Nat} {o : Option Nat} (h : IW1 ro μ ρ N w o) (e : hiR ρ ρ') : IW1 ro μ ρ' N w o := h.fr e.1 (congrFun e.2.1 _)
theorem news_loop {ro : Nat → Nat} {μ0 : Mem} {ρ0 : RS} {pl : Nat → Nat} {N c lPl aX aY nc rt0 aT nt lC aW hH eE rR an a l t w H1 K1 : Nat} {day told : Int32} (w0 : WF μ0) (lo0 : LO μ0) (h1 : Is ro μ0 c 2 (PFc lPl aX aY nc rt0 aT nt lC aW hH eE rR an)) (h2 : IPs ro μ0 ρ0 pl N lPl) (hA : IA ρ0 N) (hw4 : w < 4) (ha : Is ro μ0 a (40 + w) (.inr (9, [.ref l, .ref t, .int day, .int told]))) (hday : ra ρ0 33 (w + 1) = day) (htold : ra ρ0 35 (w + 1) = told) (hC : IC ro μ0 ρ0 N (w + 1) l (50 + 2 * w)) (hr : IR ro μ0 ρ0 (w + 1) t) (M : Nat) : ∀ (k n fuel fuel' : Nat) (μ : Mem) (ρ : RS) (h : Nat → Nat), Ext WNq ro μ0 ro μ → hiR ρ0 ρ → IE ro μ eE → IS ro μ rR → HL ro μ hH H1 K1 n (ra ρ 37) (fun _ => 0) h k → ri ρ 36 = i32 n → k + M = N → M < fuel → M < fuel' → ∃ (μ' : Mem) (ρ' : RS) (n' : Nat) (h' : Nat → Nat), B_P_news_30 fuel (some c) (some a) (i32 k) μ = some (.inr (i32 n'), μ') ∧ RB_M_news_17 fuel' (i32 w) (i32 k) ρ = some (i32 n', ρ') ∧ Ext WNq ro μ0 ro μ' ∧ hiR ρ0 ρ' ∧ IE ro μ' eE ∧ IS ro μ' rR ∧ HL ro μ' hH H1 K1 n' (ra ρ' 37) (fun _ => 0) h' N ∧ ri ρ' 36 = i32 n' := by
  have hN := h2.2.1
  have w20 : ∀ q, (q < 11 ∨ q = 14 ∨ (15 < q ∧ q < 20) ∨ 31 ≤ q) → ¬ WNq q := fun q h => WNq.no h
  have w21 : ∀ q, (q < 15 ∨ (15 < q ∧ q < 20) ∨ 31 ≤ q) → ¬ WMt q := fun q h z => by unfold WMt at z; omega
  induction M with
  | zero =>
    intro k n fuel fuel' μ ρ h e sc hE hS hL h36 hk hf hf'
    cases fuel with
    | zero => omega
    | succ fuel =>
      cases fuel' with
      | zero => omega
      | succ fuel' =>
        have h11 := h1.ext e (w20 _ (by omega))
        have h21 := h2.ext e (fun z hz => w20 z (by omega))
        have hkN : N = k := by omega
        refine ⟨μ, ρ, n, h, ?_, ?_, e, sc, hE, hS, by rw [hkN]; exact hL, h36⟩
        · show b1 (gR μ (some c) 11 0) (fun x29 => b1 (rc μ x29 0) (fun _ => b1 (S_Al_size x29 μ) (fun x32 => if x32 ≤ i32 k then b1 (gR μ (some c) 11 9) (fun x95 => b1 (gI μ x95 4 2) (fun x98 => some ((Sum.inr x98 : Nat ⊕ Int32), μ))) else _))) = _
          rw [gR_at h11.1 (k := 0) rfl, b1_some, h21.2.2.1.rc, b1_some, h21.2.2.1.size, b1_some, if_pos ((i32_le (by omega) (by omega)).mpr (by omega)), gR_at h11.1 (k := 9) rfl, b1_some, gI_at hL.2.1.1 (k := 2) rfl, b1_some]
        · show (if ri ρ 1 ≤ i32 k then some (ri ρ 36, ρ) else _) = _
          rw [sc.1.1.1, h2.1, if_pos ((i32_le (by omega) (by omega)).mpr (by omega)), h36]
  | succ M ih =>
    intro k n fuel fuel' μ ρ h e sc hE hS hL h36 hk hf hf'
    cases fuel with
    | zero => omega
    | succ fuel =>
      cases fuel' with
      | zero => omega
      | succ fuel' =>
        have hkN : k < N := by omega
        have h11 := h1.ext e (w20 _ (by omega))
        have h21 := h2.ext e (fun z hz => w20 z (by omega))
        have ha1 := ha.ext e (w20 _ (by omega))
        have hp := h21.2.2.2 k hkN
        obtain ⟨sh, sd, nm, lk, p1, p2⟩ := hp
        have hhas : S_Wa_hasTold (some a) (i32 k) μ = some (if (told &&& (1 <<< (i32 k &&& 31))) = 0 then 0 else 1) := by
          unfold S_Wa_hasTold
          rw [gI_at ha1.1 (k := 3) rfl, b1_some]
          split <;> rfl
        have expC : B_P_news_30 (fuel + 1) (some c) (some a) (i32 k) μ = if (told &&& (1 <<< (i32 k &&& 31))) = 0 then b2 (S_P_meets (some c) (some (pl k)) (some l) (some t) day μ) (fun x73 m73 => if x73 = 0 then B_P_news_30 fuel (some c) (some a) (i32 (k + 1)) m73 else b1 (gR m73 (some c) 11 9) (fun x80 => b1 (rc m73 x80 4) (fun _ => b2 (S_Hi_add x80 (i32 k) 0 m73) (fun x85 m85 => B_P_news_30 fuel (some c) (some a) (i32 (k + 1)) m85)))) else B_P_news_30 fuel (some c) (some a) (i32 (k + 1)) μ := by
          show b1 (gR μ (some c) 11 0) (fun x29 => b1 (rc μ x29 0) (fun _ => b1 (S_Al_size x29 μ) (fun x32 => if x32 ≤ i32 k then _ else b1 (rc μ (some a) 9) (fun _ => b1 (S_Wa_hasTold (some a) (i32 k) μ) (fun x43 => if x43 = 0 then b1 (gR μ (some c) 11 0) (fun x40 => b1 (rc μ x40 0) (fun _ => b1 (S_Al_get x40 (i32 k) μ) (fun x45 => b1 (cK μ x45 7) (fun _ => b1 (gR μ (some a) 9 0) (fun x52 => b1 (gR μ (some a) 9 1) (fun x56 => b1 (gI μ (some a) 9 2) (fun x60 => b1 (rc μ (some c) 11) (fun _ => b2 (S_P_meets (some c) x45 x52 x56 x60 μ) (fun x73 m73 => if x73 = 0 then B_P_news_30 fuel (some c) (some a) (i32 k + 1) m73 else b1 (gR m73 (some c) 11 9) (fun x80 => b1 (rc m73 x80 4) (fun _ => b2 (S_Hi_add x80 (i32 k) 0 m73) (fun x85 m85 => B_P_news_30 fuel (some c) (some a) (i32 k + 1) m85)))))))))))) else B_P_news_30 fuel (some c) (some a) (i32 k + 1) μ))))) = _
          rw [gR_at h11.1 (k := 0) rfl, b1_some, h21.2.2.1.rc, b1_some, h21.2.2.1.size, b1_some, if_neg (fun z => by have := (i32_le (by omega) (by omega)).mp z; omega), rc_at ha1.1, b1_some, hhas, b1_some, b1_some, h21.2.2.1.rc, b1_some, h21.2.2.1.get hkN, b1_some, cK_at p1.1, b1_some, gR_at ha1.1 (k := 0) rfl, b1_some, gR_at ha1.1 (k := 1) rfl, b1_some, gI_at ha1.1 (k := 2) rfl, b1_some, rc_at h11.1, b1_some, i32_succ]
          split <;> rfl
        have expR : RB_M_news_17 (fuel' + 1) (i32 w) (i32 k) ρ = if (told &&& (1 <<< (i32 k &&& 31))) = 0 then c2 (R_M_meets (i32 k) day (i32 (w + 1)) ρ) (fun x53 ρ53 => if x53 = 0 then RB_M_news_17 fuel' (i32 w) (i32 (k + 1)) ρ53 else c2 (R_M_insert (i32 k) 0 ρ53) (fun x62 ρ62 => RB_M_news_17 fuel' (i32 w) (i32 (k + 1)) ρ62)) else RB_M_news_17 fuel' (i32 w) (i32 (k + 1)) ρ := by
          show (if ri ρ 1 ≤ i32 k then _ else b1 (rgI ρ 35 5 (i32 w + 1)) (fun x32 => if ((x32 >>> (i32 k &&& 31)) &&& 1) = 0 then b1 (rgI ρ 33 5 (i32 w + 1)) (fun x49 => c2 (R_M_meets (i32 k) x49 (i32 w + 1) ρ) (fun x53 ρ53 => if x53 = 0 then RB_M_news_17 fuel' (i32 w) (i32 k + 1) ρ53 else c2 (R_M_insert (i32 k) 0 ρ53) (fun x62 ρ62 => RB_M_news_17 fuel' (i32 w) (i32 k + 1) ρ62))) else RB_M_news_17 fuel' (i32 w) (i32 k + 1) ρ)) = _
          rw [sc.1.1.1, h2.1, if_neg (fun z => by have := (i32_le (by omega) (by omega)).mp z; omega), i32_succ w, rgI_at (by omega) (by decide), sc.2.1, htold, b1_some, rgI_at (by omega) (by decide), sc.1.2 33 (by decide), hday, b1_some, i32_succ k]
          by_cases hb : (told &&& (1 <<< (i32 k &&& 31))) = 0
          · rw [if_pos hb, if_pos ((bit_test told (by omega)).mp hb)]
          · rw [if_neg hb, if_neg (fun q => hb ((bit_test told (by omega)).mpr q))]
        rw [expC, expR]
        by_cases hb : (told &&& (1 <<< (i32 k &&& 31))) = 0
        · rw [if_pos hb, if_pos hb]
          obtain ⟨μ1, ρ1, r, f1, f2, f3, f4, f5, f6, f7, f8⟩ := meets_eq (i := k) day e.wf (e.lo w0 lo0) h11 (h21.fr sc.1) (hA.fr sc.1) hE hS ((hr.ext e (w20 _ (by omega))).fr sc.1) ((hC.ext e (w20 _ (by omega)) (w20 _ (by omega)) (w20 _ (by omega))).fr sc.1) (w21 _ (by omega)) (w21 _ (by omega)) (by omega) hkN
          have e1 : Ext WNq ro μ0 ro μ1 := e.tr (f4.mono (fun r hr => .inl hr))
          have hL1 : HL ro μ1 hH H1 K1 n (ra ρ1 37) (fun _ => 0) h k := by
            rw [f7.a 37]
            exact hL.ext f4 (w21 _ (by omega)) (w21 _ (by omega)) (w21 _ (by omega))
          have h361 : ri ρ1 36 = i32 n := (f7.i 36).trans h36
          rw [f1, b2_some, f2, c2_some]
          rcases f3 with rfl | rfl
          · rw [if_pos rfl, if_pos rfl]
            exact ih (k + 1) n fuel fuel' μ1 ρ1 h e1 (sc.tr f7.hi) f5 f6 hL1.skip h361 (by omega) (by omega) (by omega)
          · rw [if_neg (by decide), if_neg (by decide)]
            obtain ⟨μ2, F, h', g1, g2, g3, g4, g5⟩ := hit_add (order := 0) hL1 h361 (by omega) e1.wf (e1.lo w0 lo0) (fun F' j hj => ⟨0, rfl, ⟨fun _ => Int64.lt_irrefl, fun _ => by decide⟩⟩)
            have h12 := h1.ext e1 (w20 _ (by omega))
            rw [gR_at h12.1 (k := 9) rfl, b1_some, rc_at hL1.2.1.1, b1_some, g1, b2_some, g2, c2_some]
            exact ih (k + 1) (n + 1) fuel fuel' μ2 _ h' (e1.tr (g3.mono (fun r hr => .inr hr))) ((sc.tr f7.hi).tr (hiR.ins _ _ _)) (f5.ext g3 (by unfold WH; omega) (fun i _ => by unfold WH; omega)) (f6.ext g3 (by unfold WH; omega)) g4 rfl (by omega) (by omega) (by omega)
        · rw [if_neg hb, if_neg hb]
          exact ih (k + 1) n fuel fuel' μ ρ h e sc hE hS hL.skip h36 (by omega) (by omega) (by omega)
/-- what stays after hits were found -/
theorem hits_keep {ro : Nat → Nat} {b c v : Nat} {ρ ρ' : RS} {μ μ' : Mem} {N : Nat} {pl : Nat → Nat} {lPl aX aY nc rt aT nt lC aW hH eE rR an : Nat} (e : Ext WNq ro μ ro μ') (fr : hiR ρ ρ') (h1 : Is ro μ c 2 (PFc lPl aX aY nc rt aT nt lC aW hH eE rR an)) (h2 : IPs ro μ ρ pl N lPl) (h3 : IA ρ N) (h4 : IK ro μ ρ aX aY nc) (h5 : IR ro μ ρ 0 rt) (h6 : IT ro μ ρ aT nt) (h7 : IC ro μ ρ N 0 lC 8) (h8 : IW ro μ ρ N aW) (h9 : IH ro μ' ρ' hH) (h10 : IE ro μ' eE) (h11 : IS ro μ' rR) (h12 : CN0 ro μ an 1 0 0 0 0 (fun _ => 0)) (h13 : IV ro μ v) (h14 : IB ro μ b) (h15 : WF μ) (h16 : LO μ) : Invt b c v ρ' μ' := by
  have nW : ∀ q, (q < 11 ∨ q = 14 ∨ (15 < q ∧ q < 20) ∨ 31 ≤ q) → ¬ WNq q := fun q h => WNq.no h
  exact ⟨ro, N, pl, lPl, aX, aY, nc, rt, aT, nt, lC, aW, hH, eE, rR, an, h1.ext e (nW _ (by omega)), (h2.ext e (fun q hq => nW _ (by omega))).fr fr.1, h3.fr fr.1, (h4.ext e (nW _ (by omega)) (nW _ (by omega))).fr fr.1, (h5.ext e (nW _ (by omega))).fr fr.1, (h6.ext e (nW _ (by omega))).fr fr.1, (h7.ext e (nW _ (by omega)) (nW _ (by omega)) (nW _ (by omega))).fr fr.1, (h8.ext e (fun q hq => nW _ (by omega))).fr fr.1 fr.2.1, h9, h10, h11, h12.ext e (nW _ (by omega)), h13.ext e (nW _ (by omega)), h14.ext e, e.wf, e.lo h15 h16⟩
theorem call_news {b c v : Nat} {ρ : RS} {μ : Mem} (hI : Invt b c v ρ μ) (hov : ov b ρ μ = μ) (x : Int32) : CallI (S_P_news (some c) x) (R_M_news x) [(0, 1)] b c v ρ μ := by
  have hI0 := hI
  obtain ⟨ro, N, pl, lPl, aX, aY, nc, rt, aT, nt, lC, aW, hH, eE, rR, an, h1, h2, h3, h4, h5, h6, h7, h8, h9, h10, h11, h12, h13, h14, h15, h16⟩ := hI
  rcases watch_get x h1 h8 with ⟨g1, g2⟩ | ⟨w, f, a, l, t, hw, rfl, g1, g2, g3, g4, g5, g6, g7, g8, g9⟩
  · refine .inr ⟨0, m_up μ, 1, 0, rpI ρ 0 1, ?_, by decide, ?_, rfl, by decide, hI0.code 1⟩
    · unfold S_P_news
      rw [rc_at h1.up.1, b1_some, g1, b1_some, if_pos rfl]
    · unfold R_M_news
      rw [g2, c2_some, if_pos rfl]
  · have fr0 : frR ρ (rpI (rpI ρ 0 0) 36 (i32 0)) := ⟨⟨rfl, rfl, rfl⟩, fun _ _ => rfl⟩
    have hN := h2.2.1
    obtain ⟨H1, K1, n0, f0, g0, y1, y2, y3, y4, y5, y6⟩ := h9
    obtain ⟨μ1, s1, k1, i1⟩ := Hi_empty_eq h15 h16 y1
    have k2 : Ext WNq ro μ ro μ1 := k1.mono (fun r hr => .inr (.inl hr))
    obtain ⟨μ2, ρ2, n2, h', L1, L2, L3, L4, L5, L6, L7, L8⟩ := news_loop (ρ0 := rpI (rpI ρ 0 0) 36 (i32 0)) (a := a) (l := l) (t := t) (w := w) (rR := rR) (H1 := H1) (K1 := K1) h15 h16 h1 (h2.fr fr0) (h3.fr fr0) hw g6 rfl rfl (g7.fr fr0) (g8.fr fr0) N 0 0 fu fu μ1 (rpI (rpI ρ 0 0) 36 (i32 0)) (fun _ => 0) k2 (hiR.rf _) (h10.ext k1 (by decide) (fun i _ => by omega)) (h11.ext k1 (by decide)) (hL0 _ _ i1 (y4.ext k1 (by decide)) (y5.ext k1 (by decide))) rfl (by omega) (by show N < 4096; omega) (by show N < 4096; omega)
    have hz : ri ρ2 0 = 0 := L4.2.2
    have hiq : frR ρ ρ2 := ⟨⟨L4.1.1.1, L4.1.1.2.1, L4.1.1.2.2⟩, fun j hj => L4.1.2 j hj⟩
    refine .inl ⟨i32 n2, μ2, ρ2, ?_, ov_keep hov h14 L3 (WNq.no (by omega)), ?_, hz, ?_⟩
    · unfold S_P_news
      rw [rc_at h1.1, b1_some, g1, b1_some, if_neg (some_ne _), gR_at h1.1 (k := 9) rfl, b1_some, rc_at y1.1, b1_some, s1, b2_some, show (0 : Int32) = i32 0 from rfl, L1]
    · unfold R_M_news
      rw [g9, c2_some, if_neg (by decide), b0_eq, show (0 : Int32) = i32 0 from rfl]
      exact L2
    · have hk0 : hiR (rpI ρ 0 0) ρ2 := ⟨hiq, L4.2.1, L4.2.2⟩
      have fr1 : frR ρ (rpI ρ 0 0) := ⟨⟨rfl, rfl, rfl⟩, fun _ _ => rfl⟩
      exact hits_keep (ρ := rpI ρ 0 0) L3 hk0 h1 (h2.fr fr1) (h3.fr fr1) (h4.fr fr1) (h5.fr fr1) (h6.fr fr1) (h7.fr fr1) (h8.fr fr1 rfl) (L7.ih L8 (by omega)) L5 L6 h12 h13 h14 h15 h16
