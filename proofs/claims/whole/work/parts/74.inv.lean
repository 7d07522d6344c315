/-! the class's objects and the reference's arrays: what ties them -/
def ltr (n : Nat) (w : Nat → Int32) : Prop := n ≤ 10 ∧ ∀ k, k < n → 97 ≤ (w k).toInt ∧ (w k).toInt ≤ 122
def dgt (w : Nat → Int32) (k : Nat) : Nat := (w k).toInt.toNat - 97
theorem ltr.d {n : Nat} {w : Nat → Int32} (h : ltr n w) : ∀ k, k < n → dgt w k < 26 ∧ w k = i32 (97 + dgt w k) := by
  intro k hk
  obtain ⟨h1, h2⟩ := h.2 k hk
  unfold dgt
  refine ⟨by omega, ?_⟩
  rw [← Int32.toInt_inj, i32_int (by omega)]
  omega
def condQ (N : Nat) (kind a b c : Int32) (len : Nat) : Prop := ((kind = 0 ∨ kind = 1 ∨ kind = 3) ∧ 1 ≤ len) ∨ (kind = 2 ∧ 1 ≤ len ∧ 0 ≤ a.toInt ∧ a.toInt ≤ 2) ∨ kind = 4 ∨ ((kind = 5 ∨ kind = 6) ∧ ∃ i, i < N ∧ a = i32 i) ∨ (kind = 7 ∧ inB a ∧ inB b ∧ 0 ≤ c.toInt ∧ c.toInt ≤ 10000) ∨ (kind = 8 ∧ 0 ≤ a.toInt ∧ a.toInt ≤ 10000)
def IQ (ro : Nat → Nat) (μ : Mem) (ρ : RS) (N q a : Nat) : Prop := ∃ len, CN0 ro μ a (ra ρ 24 q) (ra ρ 25 q) (ra ρ 26 q) (ra ρ 27 q) len (fun j => ra ρ 29 (10 * q + j)) ∧ ra ρ 28 q = i32 len ∧ condQ N (ra ρ 24 q) (ra ρ 25 q) (ra ρ 26 q) (ra ρ 27 q) len ∧ ltr len (fun j => ra ρ 29 (10 * q + j))
def IC (ro : Nat → Nat) (μ : Mem) (ρ : RS) (N s l r : Nat) : Prop := ∃ n cq, ra ρ 23 s = i32 n ∧ n ≤ 5 ∧ AR ro μ l r n cq ∧ ∀ k, k < n → IQ ro μ ρ N (5 * s + k) (cq k)
def IR (ro : Nat → Nat) (μ : Mem) (ρ : RS) (s a : Nat) : Prop := ∃ n, ra ρ 30 s = i32 n ∧ n ≤ 8 ∧ CO0 ro μ a n (fun k => ra ρ 31 (8 * s + k)) (fun k => ra ρ 32 (8 * s + k)) ∧ ∀ k, k < n → inB (ra ρ 31 (8 * s + k)) ∧ inB (ra ρ 32 (8 * s + k))
def IZ (ro : Nat → Nat) (μ : Mem) (ρ : RS) (s a : Nat) : Prop := ∃ n, ra ρ 6 s = i32 n ∧ 1 ≤ n ∧ n ≤ 8 ∧ CO0 ro μ a n (fun k => ra ρ 7 (8 * s + k)) (fun k => ra ρ 8 (8 * s + k)) ∧ (∀ k, k < n → inB (ra ρ 7 (8 * s + k)) ∧ inB (ra ρ 8 (8 * s + k))) ∧ (n = 1 ∨ (3 ≤ n ∧ surf n (fun k => ra ρ 7 (8 * s + k)) (fun k => ra ρ 8 (8 * s + k)) n 0 0 ≠ 0))
def ISh (ro : Nat → Nat) (μ : Mem) (ρ : RS) (i sh sd : Nat) : Prop := ∃ n co D, ra ρ 4 i = i32 n ∧ n ≤ 3 ∧ AR ro μ sh (100 + 10 * i + 1) n co ∧ Is ro μ sd (100 + 10 * i + 3) (.inl (0, 3, .inl D)) ∧ (∀ k, k < n → ra ρ 5 (3 * i + k) = D k) ∧ ∀ k, k < n → IZ ro μ ρ (3 * i + k) (co k)
def IN1 (ro : Nat → Nat) (μ : Mem) (ρ : RS) (q a : Nat) : Prop := ∃ len, NA0 ro μ a (ra ρ 10 q) (ra ρ 11 q) len (fun j => ra ρ 13 (10 * q + j)) ∧ ra ρ 12 q = i32 len ∧ 1 ≤ len ∧ ltr len (fun j => ra ρ 13 (10 * q + j))
def INm (ro : Nat → Nat) (μ : Mem) (ρ : RS) (i nm : Nat) : Prop := ∃ n na, ra ρ 9 i = i32 n ∧ n ≤ 2 ∧ AR ro μ nm (100 + 10 * i + 4) n na ∧ ∀ k, k < n → IN1 ro μ ρ (2 * i + k) (na k)
def IL1 (ro : Nat → Nat) (μ : Mem) (ρ : RS) (pl : Nat → Nat) (N q a : Nat) : Prop := ∃ j, LK0 ro μ a (pl j) (ra ρ 16 q) (ra ρ 17 q) ∧ ra ρ 15 q = i32 j ∧ j < N
def ILk (ro : Nat → Nat) (μ : Mem) (ρ : RS) (pl : Nat → Nat) (N i lk : Nat) : Prop := ∃ n li, ra ρ 14 i = i32 n ∧ n ≤ 4 ∧ AR ro μ lk (100 + 10 * i + 6) n li ∧ ∀ k, k < n → IL1 ro μ ρ pl N (4 * i + k) (li k)
def IP (ro : Nat → Nat) (μ : Mem) (ρ : RS) (pl : Nat → Nat) (N i : Nat) : Prop := ∃ sh sd nm lk, Is ro μ (pl i) (100 + 10 * i) (.inr (7, PC7 (i32 i) (ra ρ 2 i) (ra ρ 3 i) sh sd nm lk)) ∧ ISh ro μ ρ i sh sd ∧ INm ro μ ρ i nm ∧ ILk ro μ ρ pl N i lk
def IPs (ro : Nat → Nat) (μ : Mem) (ρ : RS) (pl : Nat → Nat) (N l : Nat) : Prop := ri ρ 1 = i32 N ∧ N ≤ 30 ∧ AR ro μ l 6 N pl ∧ ∀ i, i < N → IP ro μ ρ pl N i
def IK (ro : Nat → Nat) (μ : Mem) (ρ : RS) (aX aY n : Nat) : Prop := ri ρ 18 = i32 n ∧ n ≤ 8 ∧ ∃ fx fy, Is ro μ aX 3 (.inl (0, 8, .inl fx)) ∧ Is ro μ aY 4 (.inl (0, 8, .inl fy)) ∧ ∀ k, k < n → (fx k = ra ρ 19 k ∧ fy k = ra ρ 20 k) ∧ inB (ra ρ 19 k) ∧ inB (ra ρ 20 k)
def IT (ro : Nat → Nat) (μ : Mem) (ρ : RS) (aT n : Nat) : Prop := ri ρ 21 = i32 n ∧ n ≤ 10 ∧ ∃ f, Is ro μ aT 5 (.inl (2, 10, .inl f)) ∧ (∀ k, k < n → f k = ra ρ 22 k) ∧ ltr n (ra ρ 22)
def IH (ro : Nat → Nat) (μ : Mem) (ρ : RS) (h : Nat) : Prop := ∃ an ak n f g, Is ro μ h 11 (.inr (4, [.ref an, .ref ak, .int (i32 n)])) ∧ ri ρ 36 = i32 n ∧ n ≤ 30 ∧ Is ro μ an 12 (.inl (0, 30, .inl f)) ∧ Is ro μ ak 13 (.inl (1, 30, .inr (.inl g))) ∧ ∀ k, k < n → f k = ra ρ 37 k
def IE (ro : Nat → Nat) (μ : Mem) (a : Nat) : Prop := ∃ (lt : Nat) (fr : Nat → Option Nat) (rr : Nat → Nat), Is ro μ a 0 (.inr (3, [.ref lt])) ∧ Is ro μ lt 0 (.inl (6, 11, .inr (.inr (.inr (.inr fr))))) ∧ ∀ i, i < 11 → fr i = some (rr i) ∧ ∃ f, Is ro μ (rr i) (20 + i) (.inl (0, 11, .inl f))
def IS (ro : Nat → Nat) (μ : Mem) (a : Nat) : Prop := ∃ x y z u v w, Is ro μ a 15 (.inr (8, [.int x, .int y, .int z, .long u, .long v, .long w]))
def IW1 (ro : Nat → Nat) (μ : Mem) (ρ : RS) (N w : Nat) (o : Option Nat) : Prop := (ra ρ 34 (w + 1) = 0 ∧ o = none) ∨ (ra ρ 34 (w + 1) = 1 ∧ ∃ a l t, o = some a ∧ Is ro μ a (40 + w) (.inr (9, [.ref l, .ref t, .int (ra ρ 33 (w + 1)), .int (ra ρ 35 (w + 1))])) ∧ IC ro μ ρ N (w + 1) l (50 + 2 * w) ∧ IR ro μ ρ (w + 1) t)
def IW (ro : Nat → Nat) (μ : Mem) (ρ : RS) (N a : Nat) : Prop := ∃ f, Is ro μ a 10 (.inl (5, 4, .inr (.inr (.inr (.inr f))))) ∧ ∀ w, w < 4 → IW1 ro μ ρ N w (f w)
def IV (ro : Nat → Nat) (μ : Mem) (a : Nat) : Prop := ∃ f, Is ro μ a 16 (.inl (1, 1, .inr (.inl f)))
def IB (ro : Nat → Nat) (μ : Mem) (b : Nat) : Prop := mW μ ≤ b ∧ ∀ a, b ≤ a → a ≤ b + 40 → ro a = 1 ∧ ∃ e, mF μ a = some e
theorem IQ.ext {W : Nat → Prop} {ro ro' : Nat → Nat} {μ μ' : Mem} {ρ : RS} {N q a : Nat} (h : IQ ro μ ρ N q a) (k : Ext W ro μ ro' μ') (hw : ¬ W 0) : IQ ro' μ' ρ N q a := by
  obtain ⟨len, h1, h2⟩ := h
  exact ⟨len, h1.ext k hw, h2⟩
theorem IC.ext {W : Nat → Prop} {ro ro' : Nat → Nat} {μ μ' : Mem} {ρ : RS} {N s l r : Nat} (h : IC ro μ ρ N s l r) (k : Ext W ro μ ro' μ') (hw : ¬ W 0) (hr : ¬ W r) (hr1 : ¬ W (r + 1)) : IC ro' μ' ρ N s l r := by
  obtain ⟨n, cq, h1, h2, h3, h4⟩ := h
  exact ⟨n, cq, h1, h2, h3.ext k hr hr1, fun j hj => (h4 j hj).ext k hw⟩
theorem IR.ext {W : Nat → Prop} {ro ro' : Nat → Nat} {μ μ' : Mem} {ρ : RS} {s a : Nat} (h : IR ro μ ρ s a) (k : Ext W ro μ ro' μ') (hw : ¬ W 0) : IR ro' μ' ρ s a := by
  obtain ⟨n, h1, h2, h3, h4⟩ := h
  exact ⟨n, h1, h2, h3.ext k hw, h4⟩
theorem IZ.ext {W : Nat → Prop} {ro ro' : Nat → Nat} {μ μ' : Mem} {ρ : RS} {s a : Nat} (h : IZ ro μ ρ s a) (k : Ext W ro μ ro' μ') (hw : ¬ W 0) : IZ ro' μ' ρ s a := by
  obtain ⟨n, h1, h2, h3, h4, h5⟩ := h
  exact ⟨n, h1, h2, h3, h4.ext k hw, h5⟩
theorem ISh.ext {W : Nat → Prop} {ro ro' : Nat → Nat} {μ μ' : Mem} {ρ : RS} {i sh sd : Nat} (h : ISh ro μ ρ i sh sd) (k : Ext W ro μ ro' μ') (hw : ¬ W 0) (hr : ∀ q, 1 ≤ q → q < 4 → ¬ W (100 + 10 * i + q)) : ISh ro' μ' ρ i sh sd := by
  obtain ⟨n, co, D, h1, h2, h3, h4, h5, h6⟩ := h
  exact ⟨n, co, D, h1, h2, h3.ext k (hr 1 (by decide) (by decide)) (hr 2 (by decide) (by decide)), h4.ext k (hr 3 (by decide) (by decide)), h5, fun j hj => (h6 j hj).ext k hw⟩
theorem INm.ext {W : Nat → Prop} {ro ro' : Nat → Nat} {μ μ' : Mem} {ρ : RS} {i nm : Nat} (h : INm ro μ ρ i nm) (k : Ext W ro μ ro' μ') (hw : ¬ W 0) (hr : ∀ q, 4 ≤ q → q < 6 → ¬ W (100 + 10 * i + q)) : INm ro' μ' ρ i nm := by
  obtain ⟨n, na, h1, h2, h3, h4⟩ := h
  refine ⟨n, na, h1, h2, h3.ext k (hr 4 (by decide) (by decide)) (hr 5 (by decide) (by decide)), fun j hj => ?_⟩
  obtain ⟨len, g1, g2⟩ := h4 j hj
  exact ⟨len, g1.ext k hw, g2⟩
theorem ILk.ext {W : Nat → Prop} {ro ro' : Nat → Nat} {μ μ' : Mem} {ρ : RS} {pl : Nat → Nat} {N i lk : Nat} (h : ILk ro μ ρ pl N i lk) (k : Ext W ro μ ro' μ') (hw : ¬ W 0) (hr : ∀ q, 6 ≤ q → q < 8 → ¬ W (100 + 10 * i + q)) : ILk ro' μ' ρ pl N i lk := by
  obtain ⟨n, li, h1, h2, h3, h4⟩ := h
  refine ⟨n, li, h1, h2, h3.ext k (hr 6 (by decide) (by decide)) (hr 7 (by decide) (by decide)), fun j hj => ?_⟩
  obtain ⟨p, g1, g2⟩ := h4 j hj
  exact ⟨p, Is.ext g1 k hw, g2⟩
theorem IP.ext {W : Nat → Prop} {ro ro' : Nat → Nat} {μ μ' : Mem} {ρ : RS} {pl : Nat → Nat} {N i : Nat} (h : IP ro μ ρ pl N i) (k : Ext W ro μ ro' μ') (hw : ¬ W 0) (hr : ∀ q, q < 8 → ¬ W (100 + 10 * i + q)) : IP ro' μ' ρ pl N i := by
  obtain ⟨sh, sd, nm, lk, h1, h2, h3, h4⟩ := h
  exact ⟨sh, sd, nm, lk, h1.ext k (hr 0 (by decide)), h2.ext k hw (fun q _ _ => hr q (by omega)), h3.ext k hw (fun q _ _ => hr q (by omega)), h4.ext k hw (fun q _ _ => hr q (by omega))⟩
theorem IPs.ext {W : Nat → Prop} {ro ro' : Nat → Nat} {μ μ' : Mem} {ρ : RS} {pl : Nat → Nat} {N l : Nat} (h : IPs ro μ ρ pl N l) (k : Ext W ro μ ro' μ') (hw : ∀ q, (q = 0 ∨ q = 6 ∨ q = 7 ∨ 100 ≤ q) → ¬ W q) : IPs ro' μ' ρ pl N l := by
  obtain ⟨h1, h2, h3, h4⟩ := h
  exact ⟨h1, h2, h3.ext k (hw 6 (by omega)) (hw 7 (by omega)), fun i hi => (h4 i hi).ext k (hw 0 (by omega)) (fun q _ => hw _ (by omega))⟩
theorem IK.ext {W : Nat → Prop} {ro ro' : Nat → Nat} {μ μ' : Mem} {ρ : RS} {aX aY n : Nat} (h : IK ro μ ρ aX aY n) (k : Ext W ro μ ro' μ') (h3 : ¬ W 3) (h4 : ¬ W 4) : IK ro' μ' ρ aX aY n := by
  obtain ⟨g1, g2, fx, fy, g3, g4, g5⟩ := h
  exact ⟨g1, g2, fx, fy, g3.ext k h3, g4.ext k h4, g5⟩
theorem IT.ext {W : Nat → Prop} {ro ro' : Nat → Nat} {μ μ' : Mem} {ρ : RS} {aT n : Nat} (h : IT ro μ ρ aT n) (k : Ext W ro μ ro' μ') (h5 : ¬ W 5) : IT ro' μ' ρ aT n := by
  obtain ⟨g1, g2, f, g3, g4⟩ := h
  exact ⟨g1, g2, f, g3.ext k h5, g4⟩
theorem IH.ext {W : Nat → Prop} {ro ro' : Nat → Nat} {μ μ' : Mem} {ρ : RS} {a : Nat} (h : IH ro μ ρ a) (k : Ext W ro μ ro' μ') (h1 : ¬ W 11) (h2 : ¬ W 12) (h3 : ¬ W 13) : IH ro' μ' ρ a := by
  obtain ⟨an, ak, n, f, g, g1, g2, g3, g4, g5, g6⟩ := h
  exact ⟨an, ak, n, f, g, g1.ext k h1, g2, g3, g4.ext k h2, g5.ext k h3, g6⟩
theorem IE.ext {W : Nat → Prop} {ro ro' : Nat → Nat} {μ μ' : Mem} {a : Nat} (h : IE ro μ a) (k : Ext W ro μ ro' μ') (hw : ¬ W 0) (h1 : ∀ i, i < 11 → ¬ W (20 + i)) : IE ro' μ' a := by
  obtain ⟨lt, fr, rr, g1, g2, g3⟩ := h
  refine ⟨lt, fr, rr, g1.ext k hw, g2.ext k hw, fun i hi => ?_⟩
  obtain ⟨q1, f, q2⟩ := g3 i hi
  exact ⟨q1, f, q2.ext k (h1 i hi)⟩
theorem IS.ext {W : Nat → Prop} {ro ro' : Nat → Nat} {μ μ' : Mem} {a : Nat} (h : IS ro μ a) (k : Ext W ro μ ro' μ') (h1 : ¬ W 15) : IS ro' μ' a := by
  obtain ⟨x, y, z, u, v, w, g⟩ := h
  exact ⟨x, y, z, u, v, w, g.ext k h1⟩
theorem IW1.ext {W : Nat → Prop} {ro ro' : Nat → Nat} {μ μ' : Mem} {ρ : RS} {N w : Nat} {o : Option Nat} (h : IW1 ro μ ρ N w o) (k : Ext W ro μ ro' μ') (hw : ¬ W 0) (h1 : ¬ W (40 + w)) (h2 : ¬ W (50 + 2 * w)) (h3 : ¬ W (50 + 2 * w + 1)) : IW1 ro' μ' ρ N w o := by
  rcases h with h | ⟨g1, a, l, t, g2, g3, g4, g5⟩
  · exact .inl h
  · exact .inr ⟨g1, a, l, t, g2, g3.ext k h1, g4.ext k hw h2 h3, g5.ext k hw⟩
theorem IW.ext {W : Nat → Prop} {ro ro' : Nat → Nat} {μ μ' : Mem} {ρ : RS} {N a : Nat} (h : IW ro μ ρ N a) (k : Ext W ro μ ro' μ') (hw : ∀ q, (q = 0 ∨ q = 10 ∨ (40 ≤ q ∧ q < 60)) → ¬ W q) : IW ro' μ' ρ N a := by
  obtain ⟨f, h1, h2⟩ := h
  exact ⟨f, h1.ext k (hw 10 (by omega)), fun w hw4 => (h2 w hw4).ext k (hw 0 (by omega)) (hw _ (by omega)) (hw _ (by omega)) (hw _ (by omega))⟩
theorem IV.ext {W : Nat → Prop} {ro ro' : Nat → Nat} {μ μ' : Mem} {a : Nat} (h : IV ro μ a) (k : Ext W ro μ ro' μ') (h1 : ¬ W 16) : IV ro' μ' a := by
  obtain ⟨f, h⟩ := h
  exact ⟨f, h.ext k h1⟩
theorem IB.ext {W : Nat → Prop} {ro ro' : Nat → Nat} {μ μ' : Mem} {b : Nat} (h : IB ro μ b) (k : Ext W ro μ ro' μ') : IB ro' μ' b := by
  refine ⟨by rw [k.2.1]; exact h.1, fun a h1 h2 => ?_⟩
  obtain ⟨g1, e, g2⟩ := h.2 a h1 h2
  obtain ⟨k1, k2, k3⟩ := k.2.2.2.2.2 a e g2
  exact ⟨k1.trans g1, k2⟩
/-! parents on a day -/
def nSp (ρ : RS) (i : Nat) : Nat := (ra ρ 14 i).toNatClampNeg
def upD (ρ : RS) (day : Int32) (i : Nat) : Option Nat := (lstIx (fun k => ra ρ 16 (4 * i + k)) (fun k => ra ρ 17 (4 * i + k)) day (nSp ρ i) 0 none).map (fun k => (ra ρ 15 (4 * i + k)).toNatClampNeg)
def itU (up : Nat → Option Nat) : Nat → Nat → Option Nat
  | 0, i => some i
  | m + 1, i => (up i).bind (itU up m)
def IA (ρ : RS) (N : Nat) : Prop := (∀ i, N ≤ i → i < 30 → ra ρ 4 i = 0 ∧ ra ρ 9 i = 0 ∧ ra ρ 14 i = 0) ∧ (∀ i, i < N → ∀ j k, j < nSp ρ i → k < nSp ρ i → ra ρ 16 (4 * i + j) ≤ ra ρ 17 (4 * i + k) → ra ρ 16 (4 * i + k) ≤ ra ρ 17 (4 * i + j) → j = k) ∧ (∀ i, i < N → ∀ k, k < nSp ρ i → ra ρ 16 (4 * i + k) ≤ ra ρ 17 (4 * i + k)) ∧ ∀ day i m, i < N → itU (upD ρ day) (m + 1) i ≠ some i
/-! all of it -/
def PFc (lPl aX aY nc rt aT nt lC aW hH eE rR an : Nat) : ME := .inr (11, [.ref lPl, .ref aX, .ref aY, .int (i32 nc), .ref rt, .ref aT, .int (i32 nt), .ref lC, .ref aW, .ref hH, .ref eE, .ref rR, .ref an])
def InvR (ro : Nat → Nat) (b c v : Nat) (ρ : RS) (μ : Mem) : Prop := ∃ N pl lPl aX aY nc rt aT nt lC aW hH eE rR an, Is ro μ c 2 (PFc lPl aX aY nc rt aT nt lC aW hH eE rR an) ∧ IPs ro μ ρ pl N lPl ∧ IA ρ N ∧ IK ro μ ρ aX aY nc ∧ IR ro μ ρ 0 rt ∧ IT ro μ ρ aT nt ∧ IC ro μ ρ N 0 lC 8 ∧ IW ro μ ρ N aW ∧ IH ro μ ρ hH ∧ IE ro μ eE ∧ IS ro μ rR ∧ CN0 ro μ an 1 0 0 0 0 (fun _ => 0) ∧ IV ro μ v ∧ IB ro μ b ∧ WF μ ∧ LO μ
def Invt (b c v : Nat) (ρ : RS) (μ : Mem) : Prop := ∃ ro, InvR ro b c v ρ μ
theorem InvR.ext {W : Nat → Prop} {ro ro' : Nat → Nat} {b c v : Nat} {ρ : RS} {μ μ' : Mem} (h : InvR ro b c v ρ μ) (k : Ext W ro μ ro' μ') (hW : ∀ r, r ≠ 1 → ¬ W r) : InvR ro' b c v ρ μ' := by
  obtain ⟨N, pl, lPl, aX, aY, nc, rt, aT, nt, lC, aW, hH, eE, rR, an, h1, h2, h3, h4, h5, h6, h7, h8, h9, h10, h11, h12, h13, h14, h15, h16⟩ := h
  exact ⟨N, pl, lPl, aX, aY, nc, rt, aT, nt, lC, aW, hH, eE, rR, an, h1.ext k (hW _ (by decide)), h2.ext k (fun q hq => hW q (by omega)), h3, h4.ext k (hW _ (by decide)) (hW _ (by decide)), h5.ext k (hW _ (by decide)), h6.ext k (hW _ (by decide)), h7.ext k (hW _ (by decide)) (hW _ (by decide)) (hW _ (by decide)), h8.ext k (fun q hq => hW q (by omega)), h9.ext k (hW _ (by decide)) (hW _ (by decide)) (hW _ (by decide)), h10.ext k (hW _ (by decide)) (fun i _ => hW _ (by omega)), h11.ext k (hW _ (by decide)), h12.ext k (hW _ (by decide)), h13.ext k (hW _ (by decide)), h14.ext k, k.wf, k.lo h15 h16⟩
theorem InvR.wf {ro : Nat → Nat} {b c v : Nat} {ρ : RS} {μ : Mem} (h : InvR ro b c v ρ μ) : WF μ := by
  obtain ⟨N, pl, lPl, aX, aY, nc, rt, aT, nt, lC, aW, hH, eE, rR, an, h1, h2, h3, h4, h5, h6, h7, h8, h9, h10, h11, h12, h13, h14, h15, h16⟩ := h
  exact h15
theorem InvR.lo {ro : Nat → Nat} {b c v : Nat} {ρ : RS} {μ : Mem} (h : InvR ro b c v ρ μ) : LO μ := by
  obtain ⟨N, pl, lPl, aX, aY, nc, rt, aT, nt, lC, aW, hH, eE, rR, an, h1, h2, h3, h4, h5, h6, h7, h8, h9, h10, h11, h12, h13, h14, h15, h16⟩ := h
  exact h16
theorem InvR.ib {ro : Nat → Nat} {b c v : Nat} {ρ : RS} {μ : Mem} (h : InvR ro b c v ρ μ) : IB ro μ b := by
  obtain ⟨N, pl, lPl, aX, aY, nc, rt, aT, nt, lC, aW, hH, eE, rR, an, h1, h2, h3, h4, h5, h6, h7, h8, h9, h10, h11, h12, h13, h14, h15, h16⟩ := h
  exact h14
theorem ov_in {b : Nat} {ρ : RS} {μ : Mem} {a : Nat} (h1 : b ≤ a) (h2 : a ≤ b + 40) : ∃ e, mF (ov b ρ μ) a = some e := by
  show ∃ e, (if a = b then _ else _) = some e
  split
  · exact ⟨_, rfl⟩
  · rw [if_pos (by omega)]
    exact ⟨_, rfl⟩
theorem ov_out {b : Nat} {ρ : RS} {μ : Mem} {a : Nat} (h : a < b ∨ b + 40 < a) : mF (ov b ρ μ) a = mF μ a := by
  show (if a = b then _ else _) = _
  rw [if_neg (by omega), if_neg (by omega)]
theorem ov_ext {ro : Nat → Nat} {b : Nat} (ρ : RS) {μ : Mem} (w : WF μ) (h : IB ro μ b) : Ext (fun q => q = 1) ro μ ro (ov b ρ μ) := by
  have hlt : b + 40 < mN μ := by
    obtain ⟨g1, e, g2⟩ := h.2 (b + 40) (by omega) (by omega)
    exact w.lt g2
  refine ⟨rfl, rfl, Nat.le_refl _, ⟨w.1, fun a ha => ?_⟩, fun a e ha => ?_, fun a e ha => ⟨rfl, ?_, fun hr => ?_⟩⟩
  · have ha : mN μ ≤ a := ha
    rw [ov_out (by omega)]
    exact w.2 a ha
  · by_cases hb : b ≤ a ∧ a ≤ b + 40
    · exact .inr (h.2 a hb.1 hb.2).2
    · rw [ov_out (by omega)] at ha
      exact .inr ⟨e, ha⟩
  · by_cases hb : b ≤ a ∧ a ≤ b + 40
    · exact ov_in hb.1 hb.2
    · exact ⟨e, by rw [ov_out (by omega)]; exact ha⟩
  · by_cases hb : b ≤ a ∧ a ≤ b + 40
    · exact absurd (h.2 a hb.1 hb.2).1 hr
    · rw [ov_out (by omega)]; exact ha
theorem ov_unext {ro : Nat → Nat} {b : Nat} (ρ : RS) {μ : Mem} (w : WF μ) (h : IB ro μ b) : Ext (fun q => q = 1) ro (ov b ρ μ) ro μ := by
  refine ⟨rfl, rfl, Nat.le_refl _, w, fun a e ha => ?_, fun a e ha => ⟨rfl, ?_, fun hr => ?_⟩⟩
  · by_cases hb : b ≤ a ∧ a ≤ b + 40
    · exact .inr (ov_in hb.1 hb.2)
    · exact .inr ⟨e, by rw [ov_out (by omega)]; exact ha⟩
  · by_cases hb : b ≤ a ∧ a ≤ b + 40
    · exact (h.2 a hb.1 hb.2).2
    · rw [ov_out (by omega)] at ha
      exact ⟨e, ha⟩
  · by_cases hb : b ≤ a ∧ a ≤ b + 40
    · exact absurd (h.2 a hb.1 hb.2).1 hr
    · rw [ov_out (by omega)] at ha; exact ha
theorem Invt.over {b c v : Nat} {ρ' : RS} (ρ : RS) {μ : Mem} (h : Invt b c v ρ' μ) : Invt b c v ρ' (ov b ρ μ) := by
  obtain ⟨ro, h⟩ := h
  exact ⟨ro, h.ext (ov_ext ρ h.wf h.ib) (fun r hr q => hr q)⟩
theorem Invt.grow {b c v : Nat} {ρ : RS} {μ : Mem} (h : Invt b c v ρ μ) {M : Nat} (hM : mN μ ≤ M) : Invt b c v ρ (m_grow μ M) := by
  obtain ⟨ro, h⟩ := h
  refine ⟨ro, h.ext (W := fun _ => False) ⟨rfl, rfl, hM, ⟨⟨h.wf.1.1, Nat.le_trans h.wf.1.2 hM⟩, fun a ha => h.wf.2 a (Nat.le_trans hM ha)⟩, fun a e ha => .inr ⟨e, ha⟩, fun a e ha => ⟨rfl, ⟨e, ha⟩, fun _ => ha⟩⟩ (fun r _ q => q)⟩
/-- a class call leaves the reference's block -/
theorem ov_keep {W : Nat → Prop} {ro ro' : Nat → Nat} {b : Nat} {ρ : RS} {μ μ' : Mem} (hov : ov b ρ μ = μ) (h : IB ro μ b) (k : Ext W ro μ ro' μ') (hW : ¬ W 1) : ov b ρ μ' = μ' := by
  have hc : ∀ a, mF (ov b ρ μ') a = mF μ' a := by
    intro a
    by_cases hb : b ≤ a ∧ a ≤ b + 40
    · obtain ⟨g1, e, g2⟩ := h.2 a hb.1 hb.2
      obtain ⟨k1, k2, k3⟩ := k.2.2.2.2.2 a e g2
      rw [k3 (by rw [g1]; exact hW), ← g2, ← hov]
      show (if a = b then _ else _) = (if a = b then _ else _)
      split
      · rfl
      · rw [if_pos (by omega), if_pos (by omega)]
    · exact ov_out (by omega)
  show (mE μ', mW μ', mN μ', mF (ov b ρ μ')) = μ'
  rw [funext hc]
/-! a call: the class's and the reference's -/
def CallI (S : Mem → Option ((Nat ⊕ Int32) × Mem)) (R : RS → Option (Int32 × RS)) (codes : List (Nat × Int32)) (b c v : Nat) (ρ : RS) (μ : Mem) : Prop :=
  (∃ x μ' ρ', S μ = some (.inr x, μ') ∧ ov b ρ μ' = μ' ∧ R ρ = some (x, ρ') ∧ ri ρ' 0 = 0 ∧ Invt b c v ρ' μ') ∨ (∃ ex μx k x ρ', S (m_up μ) = some (.inl ex, μx) ∧ (ex, k) ∈ codes ∧ R ρ = some (x, ρ') ∧ ri ρ' 0 = k ∧ k ≠ 0 ∧ Invt b c v ρ' μ)
def CallU (S : Mem → Option ((Nat ⊕ Unit) × Mem)) (R : RS → Option (Unit × RS)) (codes : List (Nat × Int32)) (b c v : Nat) (ρ : RS) (μ : Mem) : Prop :=
  (∃ μ' ρ', S μ = some (.inr (), μ') ∧ ov b ρ μ' = μ' ∧ R ρ = some ((), ρ') ∧ ri ρ' 0 = 0 ∧ Invt b c v ρ' μ') ∨ (∃ ex μx k ρ', S (m_up μ) = some (.inl ex, μx) ∧ (ex, k) ∈ codes ∧ R ρ = some ((), ρ') ∧ ri ρ' 0 = k ∧ k ≠ 0 ∧ Invt b c v ρ' μ)
