/-! from the calls to the law -/
def CallN {α : Type} (S : Mem → Option (α × Mem)) (R : RS → Option (α × RS)) (b c v : Nat) (ρ : RS) (μ : Mem) : Prop := ∃ x μ' ρ', S μ = some (x, μ') ∧ ov b ρ μ' = μ' ∧ R ρ = some (x, ρ') ∧ Invt b c v ρ' μ'
theorem Invt.unov {b c v : Nat} {ρ' : RS} {ρ : RS} {μ : Mem} (h0 : Invt b c v ρ μ) (h : Invt b c v ρ' (ov b ρ μ)) : Invt b c v ρ' μ := by
  obtain ⟨ro, h⟩ := h
  obtain ⟨ro0, h0⟩ := h0
  refine ⟨ro, h.ext (W := fun q => q = 1) ?_ (fun r hr q => hr q)⟩
  have w := h0.wf
  have hb := h.ib
  have hb0 := h0.ib
  refine ⟨rfl, rfl, Nat.le_refl _, w, fun a e ha => ?_, fun a e ha => ⟨rfl, ?_, fun hr => ?_⟩⟩
  · by_cases hab : b ≤ a ∧ a ≤ b + 40
    · exact .inr (ov_in hab.1 hab.2)
    · exact .inr ⟨e, by rw [ov_out (by omega)]; exact ha⟩
  · by_cases hab : b ≤ a ∧ a ≤ b + 40
    · exact (hb0.2 a hab.1 hab.2).2
    · rw [ov_out (by omega)] at ha
      exact ⟨e, ha⟩
  · by_cases hab : b ≤ a ∧ a ≤ b + 40
    · exact absurd (hb.2 a hab.1 hab.2).1 hr
    · rw [ov_out (by omega)] at ha; exact ha
theorem Invt.rcp {b c v : Nat} {ρ : RS} {μ : Mem} (h : Invt b c v ρ μ) : rc μ (some c) 11 = some () := by
  obtain ⟨ro, N, pl, lPl, aX, aY, nc, rt, aT, nt, lC, aW, hH, eE, rR, an, h1, h2⟩ := h
  exact rc_at h1.1
theorem Invt.mw {b c v : Nat} {ρ : RS} {μ : Mem} (h : Invt b c v ρ μ) : mW μ ≤ b := by
  obtain ⟨ro, h⟩ := h
  exact h.ib.1
theorem sL_at {μ : Mem} {a t n j : Nat} {f : Nat → Int64} (x : Int64) (h : mF μ a = some (.inl (t, n, .inr (.inl f)))) (hW : mW μ ≤ a) (hj : j < n) (hn : n < 2 ^ 31) : sL μ (some a) t (i32 j) x = some (m_set μ a (.inl (t, n, .inr (.inl (vp_updL f j x))))) := by
  unfold sL
  rw [aC_at h]
  dsimp only
  rw [if_neg (not_oob hj hn), if_pos hW, i32_nat (by omega)]
/-- the answer goes into the law's long -/
theorem Invt.put {b c v : Nat} {ρ ρ' : RS} {μ : Mem} (hov : ov b ρ μ = μ) (h : Invt b c v ρ' μ) (x : Int64) : ∃ μ', sL μ (some v) 1 0 x = some μ' ∧ ov b ρ μ' = μ' ∧ Invt b c v ρ' μ' ∧ ∀ ρ2, aL (ov b ρ2 μ') (some v) 1 0 = some x := by
  obtain ⟨ro, N, pl, lPl, aX, aY, nc, rt, aT, nt, lC, aW, hH, eE, rR, an, h1, h2, h3, h4, h5, h6, h7, h8, h9, h10, h11, h12, h13, h14, h15, h16⟩ := h
  obtain ⟨f, hv⟩ := h13
  have k : Ext (fun q => q = 16) ro μ ro (m_set μ v (.inl (1, 1, .inr (.inl (vp_updL f 0 x))))) := Ext.set (W := fun q => q = 16) h15 hv rfl _
  refine ⟨_, sL_at (j := 0) x hv.1 (hv.low h16) (by decide) (by decide), ov_keep hov h14 k (by decide), ⟨ro, N, pl, lPl, aX, aY, nc, rt, aT, nt, lC, aW, hH, eE, rR, an, h1.ext k (by decide), h2.ext k (fun q hq => by omega), h3, h4.ext k (by decide) (by decide), h5.ext k (by decide), h6.ext k (by decide), h7.ext k (by decide) (by decide) (by decide), h8.ext k (fun q hq => by omega), h9.ext k (by decide) (by decide) (by decide), h10.ext k (by decide) (fun i _ => by omega), h11.ext k (by decide), h12.ext k (by decide), ⟨_, hv.set ro _⟩, h14.ext k, k.wf, k.lo h15 h16⟩, fun ρ2 => ?_⟩
  have hvo : v < b ∨ b + 40 < v := by
    have : ¬ (b ≤ v ∧ v ≤ b + 40) := fun q => by
      have := (h14.2 v q.1 q.2).1
      rw [hv.2] at this
      omega
    omega
  refine (aL_at (n := 1) (j := 0) (f := vp_updL f 0 x) ?_ (by decide) (by decide)).trans ?_
  · rw [ov_out hvo]
    exact set_at _ _ _
  · rfl
theorem wc_I {S : Mem → Option ((Nat ⊕ Int32) × Mem)} {R : RS → Option (Int32 × RS)} {codes : List (Nat × Int32)} {b c v : Nat} {ρ : RS} {μ : Mem} {SL : Mem → Option (Int32 × Mem)} {K : Int32 → Mem → Prop} (hI : Invt b c v ρ μ) (h : CallI S R codes b c v ρ (ov b ρ μ)) (hSL : ∀ m, SL m = b1 (rc m (some c) 11) (fun _ => b2 (nrm (S m)) (fun x m' => b1 (sL m' (some v) 1 0 ((x : Int32).toInt64)) (fun m'' => some (0, m''))))) (hK : ∀ s0 μ' x ρ', R ρ = some (x, ρ') → ri ρ' 0 = s0 → Invt b c v ρ' μ' → (s0 = 0 → aL (ov b ρ' μ') (some v) 1 0 = some x.toInt64) → K s0 μ') : WC SL S codes (some c) b ρ μ K := by
  have hr := (hI.over ρ).rcp
  rcases h with ⟨x, μ', ρ', h1, h2, h3, h4, h5⟩ | ⟨ex, μx, k, x, ρ', h1, h2, h3, h4, h5, h6⟩
  · obtain ⟨μ2, p1, p2, p3, p4⟩ := h5.put h2 x.toInt64
    refine .inl ⟨0, μ2, ?_, p2, hK 0 μ2 x ρ' h3 h4 p3 (fun _ => p4 ρ')⟩
    rw [hSL, hr, b1_some, h1]
    show b1 (sL μ' (some v) 1 0 x.toInt64) _ = _
    rw [p1, b1_some]
  · exact .inr ⟨ex, μx, k, h1, hr, h2, fun M hM => hK k _ x ρ' h3 h4 ((hI.unov h6).grow hM) (fun q => absurd q h5)⟩
theorem wc_U {S : Mem → Option ((Nat ⊕ Unit) × Mem)} {R : RS → Option (Unit × RS)} {codes : List (Nat × Int32)} {b c v : Nat} {ρ : RS} {μ : Mem} {SL : Mem → Option (Int32 × Mem)} {K : Int32 → Mem → Prop} (hI : Invt b c v ρ μ) (h : CallU S R codes b c v ρ (ov b ρ μ)) (hSL : ∀ m, SL m = b1 (rc m (some c) 11) (fun _ => b2 (nrm (S m)) (fun _ m' => some (0, m')))) (hK : ∀ s0 μ' ρ', R ρ = some ((), ρ') → ri ρ' 0 = s0 → Invt b c v ρ' μ' → K s0 μ') : WC SL S codes (some c) b ρ μ K := by
  have hr := (hI.over ρ).rcp
  rcases h with ⟨μ', ρ', h1, h2, h3, h4, h5⟩ | ⟨ex, μx, k, ρ', h1, h2, h3, h4, h5, h6⟩
  · refine .inl ⟨0, μ', ?_, h2, hK 0 μ' ρ' h3 h4 h5⟩
    rw [hSL, hr, b1_some, h1]
    rfl
  · exact .inr ⟨ex, μx, k, h1, hr, h2, fun M hM => hK k _ ρ' h3 h4 ((hI.unov h6).grow hM)⟩
theorem lg_self (x : Int64) : lg_cmp x x = 0 := by
  unfold lg_cmp
  rw [if_neg (Int64.lt_irrefl), if_pos rfl]
/-- what each call must do -/
def AllCalls (b c v : Nat) : Prop := ∀ ρ μ, Invt b c v ρ μ → ov b ρ μ = μ →
  (∀ k, CallI (S_P_place (some c) k) (R_M_place k) [(0, 1), (1, 2)] b c v ρ μ) ∧
  (∀ x y, CallI (S_P_corner (some c) x y) (R_M_corner x y) [(0, 1), (1, 2)] b c v ρ μ) ∧
  (∀ x y, CallU (S_P_shape (some c) x y) (R_M_shape x y) [(0, 1), (1, 2)] b c v ρ μ) ∧
  CallN (S_P_route (some c)) R_M_route b c v ρ μ ∧
  (∀ x, CallN (S_P_letter (some c) x) (R_M_letter x) b c v ρ μ) ∧
  (∀ x y z, CallU (S_P_name (some c) x y z) (R_M_name x y z) [(0, 1), (1, 2)] b c v ρ μ) ∧
  (∀ x y z u, CallU (S_P_parent (some c) x y z u) (R_M_parent x y z u) [(0, 1), (2, 2), (1, 3)] b c v ρ μ) ∧
  (∀ x y, CallU (S_P_remove (some c) x y) (R_M_remove x y) [(0, 1), (1, 2)] b c v ρ μ) ∧
  (∀ x y z u, CallI (S_P_condition (some c) x y z u) (R_M_condition x y z u) [(0, 1), (1, 2)] b c v ρ μ) ∧
  CallN (S_P_clear (some c)) R_M_clear b c v ρ μ ∧
  (∀ x y, CallI (S_P_find (some c) x y) (R_M_find x y) [(0, 1)] b c v ρ μ) ∧
  (∀ x y z u w, CallI (S_P_near (some c) x y z u w) (R_M_near x y z u w) [(0, 1)] b c v ρ μ) ∧
  (∀ x, CallI (S_P_hit (some c) x) (R_M_hit x) [(3, 1)] b c v ρ μ) ∧
  (∀ x y z, CallI (S_P_chain (some c) x y z) (R_M_chain x y z) [(0, 1)] b c v ρ μ) ∧
  (∀ x y z u, CallI (S_P_holds (some c) x y z u) (R_M_holds x y z u) [(0, 1)] b c v ρ μ) ∧
  CallN (S_P_sound (some c)) R_M_sound b c v ρ μ ∧
  (∀ x y, CallI (S_P_errors (some c) x y) (R_M_errors x y) [(4, 1)] b c v ρ μ) ∧
  (∀ x y, CallU (S_P_watch (some c) x y) (R_M_watch x y) [(0, 1)] b c v ρ μ) ∧
  (∀ x, CallI (S_P_news (some c) x) (R_M_news x) [(0, 1)] b c v ρ μ) ∧
  (∀ x, CallI (S_P_told (some c) x) (R_M_told x) [(0, 1)] b c v ρ μ)
