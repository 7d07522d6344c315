/-! the ties, where the reference's arrays are the same -/
theorem IC.same {ro : Nat → Nat} {μ : Mem} {ρ ρ' : RS} {N s l r : Nat} (h : IC ro μ ρ N s l r) (e23 : ra ρ' 23 = ra ρ 23) (e24 : ra ρ' 24 = ra ρ 24) (e25 : ra ρ' 25 = ra ρ 25) (e26 : ra ρ' 26 = ra ρ 26) (e27 : ra ρ' 27 = ra ρ 27) (e28 : ra ρ' 28 = ra ρ 28) (e29 : ra ρ' 29 = ra ρ 29) : IC ro μ ρ' N s l r :=
  h.rho (Nat.le_refl _) (congrFun e23 _) (fun k _ => ⟨congrFun e24 _, congrFun e25 _, congrFun e26 _, congrFun e27 _, congrFun e28 _, fun j _ => congrFun e29 _⟩)
theorem IR.same {ro : Nat → Nat} {μ : Mem} {ρ ρ' : RS} {s a : Nat} (h : IR ro μ ρ s a) (e30 : ra ρ' 30 = ra ρ 30) (e31 : ra ρ' 31 = ra ρ 31) (e32 : ra ρ' 32 = ra ρ 32) : IR ro μ ρ' s a :=
  h.rho (congrFun e30 _) (fun k _ => ⟨congrFun e31 _, congrFun e32 _⟩)
theorem IW.same {ro : Nat → Nat} {μ : Mem} {ρ ρ' : RS} {N a : Nat} (h : IW ro μ ρ N a) (e23 : ra ρ' 23 = ra ρ 23) (e24 : ra ρ' 24 = ra ρ 24) (e25 : ra ρ' 25 = ra ρ 25) (e26 : ra ρ' 26 = ra ρ 26) (e27 : ra ρ' 27 = ra ρ 27) (e28 : ra ρ' 28 = ra ρ 28) (e29 : ra ρ' 29 = ra ρ 29) (e30 : ra ρ' 30 = ra ρ 30) (e31 : ra ρ' 31 = ra ρ 31) (e32 : ra ρ' 32 = ra ρ 32) (e33 : ra ρ' 33 = ra ρ 33) (e34 : ra ρ' 34 = ra ρ 34) (e35 : ra ρ' 35 = ra ρ 35) : IW ro μ ρ' N a := by
  obtain ⟨f, h1, h2⟩ := h
  exact ⟨f, h1, fun w hw => (h2 w hw).rho (Nat.le_refl _) (congrFun e34 _) (congrFun e33 _) (congrFun e35 _) (congrFun e23 _) (fun k _ => ⟨congrFun e24 _, congrFun e25 _, congrFun e26 _, congrFun e27 _, congrFun e28 _, fun j _ => congrFun e29 _⟩) (congrFun e30 _) (fun k _ => ⟨congrFun e31 _, congrFun e32 _⟩)⟩
theorem ISh.same {ro : Nat → Nat} {μ : Mem} {ρ ρ' : RS} {i sh sd : Nat} (h : ISh ro μ ρ i sh sd) (e4 : ra ρ' 4 = ra ρ 4) (e5 : ra ρ' 5 = ra ρ 5) (e6 : ra ρ' 6 = ra ρ 6) (e7 : ra ρ' 7 = ra ρ 7) (e8 : ra ρ' 8 = ra ρ 8) : ISh ro μ ρ' i sh sd :=
  h.rho (congrFun e4 _) (fun k _ => ⟨congrFun e5 _, congrFun e6 _, fun j _ => ⟨congrFun e7 _, congrFun e8 _⟩⟩)
theorem INm.same {ro : Nat → Nat} {μ : Mem} {ρ ρ' : RS} {i nm : Nat} (h : INm ro μ ρ i nm) (e9 : ra ρ' 9 = ra ρ 9) (e10 : ra ρ' 10 = ra ρ 10) (e11 : ra ρ' 11 = ra ρ 11) (e12 : ra ρ' 12 = ra ρ 12) (e13 : ra ρ' 13 = ra ρ 13) : INm ro μ ρ' i nm :=
  h.rho (congrFun e9 _) (fun k _ => ⟨congrFun e10 _, congrFun e11 _, congrFun e12 _, fun j _ => congrFun e13 _⟩)
theorem ILk.same {ro : Nat → Nat} {μ : Mem} {ρ ρ' : RS} {pl : Nat → Nat} {N i lk : Nat} (h : ILk ro μ ρ pl N i lk) (e14 : ra ρ' 14 = ra ρ 14) (e15 : ra ρ' 15 = ra ρ 15) (e16 : ra ρ' 16 = ra ρ 16) (e17 : ra ρ' 17 = ra ρ 17) : ILk ro μ ρ' pl N i lk :=
  h.rho (Nat.le_refl _) (fun _ _ => rfl) (congrFun e14 _) (fun k _ => ⟨congrFun e15 _, congrFun e16 _, congrFun e17 _⟩)
theorem IP.same {ro : Nat → Nat} {μ : Mem} {ρ ρ' : RS} {pl : Nat → Nat} {N i : Nat} (h : IP ro μ ρ pl N i) (e2 : ra ρ' 2 = ra ρ 2) (e3 : ra ρ' 3 = ra ρ 3) (e4 : ra ρ' 4 = ra ρ 4) (e5 : ra ρ' 5 = ra ρ 5) (e6 : ra ρ' 6 = ra ρ 6) (e7 : ra ρ' 7 = ra ρ 7) (e8 : ra ρ' 8 = ra ρ 8) (e9 : ra ρ' 9 = ra ρ 9) (e10 : ra ρ' 10 = ra ρ 10) (e11 : ra ρ' 11 = ra ρ 11) (e12 : ra ρ' 12 = ra ρ 12) (e13 : ra ρ' 13 = ra ρ 13) (e14 : ra ρ' 14 = ra ρ 14) (e15 : ra ρ' 15 = ra ρ 15) (e16 : ra ρ' 16 = ra ρ 16) (e17 : ra ρ' 17 = ra ρ 17) : IP ro μ ρ' pl N i := by
  obtain ⟨sh, sd, nm, lk, h1, h2, h3, h4⟩ := h
  refine ⟨sh, sd, nm, lk, ?_, h2.same e4 e5 e6 e7 e8, h3.same e9 e10 e11 e12 e13, h4.same e14 e15 e16 e17⟩
  rw [e2, e3]
  exact h1
theorem IPs.same {ro : Nat → Nat} {μ : Mem} {ρ ρ' : RS} {pl : Nat → Nat} {N l : Nat} (h : IPs ro μ ρ pl N l) (e1 : ri ρ' 1 = ri ρ 1) (e2 : ra ρ' 2 = ra ρ 2) (e3 : ra ρ' 3 = ra ρ 3) (e4 : ra ρ' 4 = ra ρ 4) (e5 : ra ρ' 5 = ra ρ 5) (e6 : ra ρ' 6 = ra ρ 6) (e7 : ra ρ' 7 = ra ρ 7) (e8 : ra ρ' 8 = ra ρ 8) (e9 : ra ρ' 9 = ra ρ 9) (e10 : ra ρ' 10 = ra ρ 10) (e11 : ra ρ' 11 = ra ρ 11) (e12 : ra ρ' 12 = ra ρ 12) (e13 : ra ρ' 13 = ra ρ 13) (e14 : ra ρ' 14 = ra ρ 14) (e15 : ra ρ' 15 = ra ρ 15) (e16 : ra ρ' 16 = ra ρ 16) (e17 : ra ρ' 17 = ra ρ 17) : IPs ro μ ρ' pl N l :=
  ⟨e1.trans h.1, h.2.1, h.2.2.1, fun i hi => (h.2.2.2 i hi).same e2 e3 e4 e5 e6 e7 e8 e9 e10 e11 e12 e13 e14 e15 e16 e17⟩
theorem IK.same {ro : Nat → Nat} {μ : Mem} {ρ ρ' : RS} {aX aY n : Nat} (h : IK ro μ ρ aX aY n) (e18 : ri ρ' 18 = ri ρ 18) (e19 : ra ρ' 19 = ra ρ 19) (e20 : ra ρ' 20 = ra ρ 20) : IK ro μ ρ' aX aY n := by
  obtain ⟨g1, g2, fx, fy, g3, g4, g5⟩ := h
  refine ⟨e18.trans g1, g2, fx, fy, g3, g4, ?_⟩
  rw [e19, e20]
  exact g5
theorem IT.same {ro : Nat → Nat} {μ : Mem} {ρ ρ' : RS} {aT n : Nat} (h : IT ro μ ρ aT n) (e21 : ri ρ' 21 = ri ρ 21) (e22 : ra ρ' 22 = ra ρ 22) : IT ro μ ρ' aT n := by
  obtain ⟨g1, g2, f, g3, g4, g5⟩ := h
  refine ⟨e21.trans g1, g2, f, g3, ?_, ?_⟩
  · rw [e22]; exact g4
  · rw [e22]; exact g5
theorem IH.same {ro : Nat → Nat} {μ : Mem} {ρ ρ' : RS} {a : Nat} (h : IH ro μ ρ a) (e36 : ri ρ' 36 = ri ρ 36) (e37 : ra ρ' 37 = ra ρ 37) : IH ro μ ρ' a := by
  obtain ⟨an, ak, n, f, g, g1, g2, g3, g4, g5, g6⟩ := h
  refine ⟨an, ak, n, f, g, g1, e36.trans g2, g3, g4, g5, ?_⟩
  rw [e37]; exact g6
theorem upD_same {ρ ρ' : RS} (e14 : ra ρ' 14 = ra ρ 14) (e15 : ra ρ' 15 = ra ρ 15) (e16 : ra ρ' 16 = ra ρ 16) (e17 : ra ρ' 17 = ra ρ 17) : upD ρ' = upD ρ := by
  funext day i
  unfold upD nSp
  rw [e14, e15, e16, e17]
theorem IA.same {ρ ρ' : RS} {N : Nat} (h : IA ρ N) (e4 : ∀ i, N ≤ i → ra ρ' 4 i = ra ρ 4 i) (e9 : ∀ i, N ≤ i → ra ρ' 9 i = ra ρ 9 i) (e14 : ra ρ' 14 = ra ρ 14) (e15 : ra ρ' 15 = ra ρ 15) (e16 : ra ρ' 16 = ra ρ 16) (e17 : ra ρ' 17 = ra ρ 17) : IA ρ' N := by
  obtain ⟨h1, h2, h3, h4⟩ := h
  refine ⟨fun i hi hi2 => ?_, ?_, ?_, ?_⟩
  · rw [e4 i hi, e9 i hi, e14]
    exact h1 i hi hi2
  · unfold nSp
    rw [e14, e16, e17]
    exact h2
  · unfold nSp
    rw [e14, e16, e17]
    exact h3
  · rw [upD_same e14 e15 e16 e17]
    exact h4
/-- what find, near, news and told write of the reference beside found and hits -/
def scr (ρ ρ' : RS) : Prop := (∀ k, k ∈ [0, 1, 18, 21, 36] → ri ρ' k = ri ρ k) ∧ ∀ k, k < 38 → ra ρ' k = ra ρ k
