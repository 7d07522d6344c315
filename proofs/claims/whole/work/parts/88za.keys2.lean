/-! the keys of the other orders -/
theorem arQ.hi {ro : Nat → Nat} {μ : Mem} {ρ ρ' : RS} {o : Option Nat} {r : Int32} (h : arQ ro μ ρ o r) (e : frR ρ ρ') : arQ ro μ ρ' o r := by
  refine h.imp id (fun ⟨cd, q, x, y, z, wo, h1, h2, h3, h4, h5, h6, h7⟩ => ⟨cd, q, x, y, z, wo, h1, h2, h3, h4, ?_, ?_, h7⟩)
  · rw [e.2 25 (by decide)]; exact h5
  · rw [e.2 26 (by decide)]; exact h6
theorem arQ.ext {W : Nat → Prop} {ro : Nat → Nat} {μ μ' : Mem} {ρ : RS} {o : Option Nat} {r : Int32} (h : arQ ro μ ρ o r) (k : Ext W ro μ ro μ') (hw : ¬ W 0) : arQ ro μ' ρ o r := h.imp id (fun ⟨cd, q, x, y, z, wo, h1, h2, h3, h4, h5⟩ => ⟨cd, q, x, y, z, wo, h1, h2, h3, h4.ext k hw, h5⟩)
theorem ncQ.ext {W : Nat → Prop} {ro : Nat → Nat} {μ μ' : Mem} {ρ : RS} {cd m : Nat} {kind x y z r : Int32} {u : Nat → Int32} (h : ncQ ro μ ρ cd kind x y z m u r) (k : Ext W ro μ ro μ') (hw : ¬ W 0) : ncQ ro μ' ρ cd kind x y z m u r := ⟨h.1.ext k hw, h.2⟩
theorem key2 {ro : Nat → Nat} {μ : Mem} {ρ : RS} {pl : Nat → Nat} {N i c k a : Nat} {o2 cd : Option Nat} {r : Int32} (day : Int32) (hP : IP ro μ ρ pl N i) (hi : i < 30) (hc : arQ ro μ ρ o2 r) (hr : R_M_firstCondition 7 7 ρ = some r) (s1 : S_Pl_shapeOn (some (pl i)) day μ = some (some a)) (s2 : R_M_shapeOf (i32 i) day ρ = some (i32 (3 * i + k))) (hk : k < 3) (s3 : IZ ro μ ρ (3 * i + k) a) : ∃ (ρ' : RS) (κ : Int64), S_P_orderKey (some c) (some (pl i)) 2 cd o2 day μ = some (κ, μ) ∧ R_M_makeKeys (i32 i) day 2 ρ = some ((), ρ') ∧ mkR ρ ρ' i ∧ κ = (ra ρ' 51 i).toInt64 := by
  have hP' := hP
  obtain ⟨sh, sd, nm, lk, p1, p2⟩ := hP'
  have e168 : ∀ s : Int32, RB_M_makeKeys_168 (i32 i) day 2 (i32 i) s ρ = some ((), rset ρ 51 (upd (ra ρ 51) i s)) := by
    intro s
    unfold RB_M_makeKeys_168 RB_M_makeKeys_169
    rw [rsI_at hi (by decide), b1_some, if_neg (by decide)]
    rfl
  have e111 : R_M_makeKeys (i32 i) day 2 ρ = (if r = -1 then b1 (R_M_square (i32 i) day 0 0 ρ) (fun x142 => RB_M_makeKeys_168 (i32 i) day 2 (i32 i) x142 ρ) else b1 (rgI ρ 25 25 r) (fun x157 => b1 (rgI ρ 26 25 r) (fun x164 => b1 (R_M_square (i32 i) day x157 x164 ρ) (fun x165 => RB_M_makeKeys_168 (i32 i) day 2 (i32 i) x165 ρ)))) := by
    unfold R_M_makeKeys RB_M_makeKeys_111
    rw [if_neg (by decide), if_pos rfl, hr, b1_some]
  rcases hc with ⟨c1, c2'⟩ | ⟨ca, q, x, y, z, wo, c1, c2', c3, c4, c5, c6, c7, c8⟩
  · obtain ⟨s, q1, q2⟩ := hP.sq hi day (x := 0) (y := 0) ⟨by decide, by decide⟩ ⟨by decide, by decide⟩ s1 s2 hk s3
    refine ⟨_, s.toInt64, ?_, by rw [e111, if_pos c2', q2, b1_some, e168], mkR.i51 _ _ _, ?_⟩
    · unfold S_P_orderKey B_P_orderKey_71
      rw [if_neg (by decide), if_pos rfl, if_pos c1, rc_at p1.1, b1_some, q1, b1_some]
    · show s.toInt64 = (upd (ra ρ 51) i s i).toInt64
      rw [upd_at]
  · obtain ⟨s, q1, q2⟩ := hP.sq hi day c7 c8 s1 s2 hk s3
    refine ⟨_, s.toInt64, ?_, by rw [e111, if_neg (by rw [c2']; exact ne_m1 (by omega)), c2', rgI_at (by omega) (by decide), c5, b1_some, rgI_at (by omega) (by decide), c6, b1_some, q2, b1_some, e168], mkR.i51 _ _ _, ?_⟩
    · unfold S_P_orderKey B_P_orderKey_71
      rw [if_neg (by decide), if_pos rfl, c1, if_neg (some_ne _), gI_at c4.1 (k := 1) rfl, b1_some, gI_at c4.1 (k := 2) rfl, b1_some, rc_at p1.1, b1_some, q1, b1_some]
    · show s.toInt64 = (upd (ra ρ 51) i s i).toInt64
      rw [upd_at]
theorem i32_64 {n : Nat} (h : n < 2 ^ 31) : (i32 n).toInt64 = i64 n := by
  rw [← Int64.toInt_inj, Int32.toInt_toInt64, i32_int h, i64_int (by omega)]
theorem shl32 : ∀ s : Fin 8, ((Int32.ofNat s.1).toInt64 <<< ((32 : Int32).toInt64 &&& 63)) = Int64.ofNat (s.1 * 4294967296) := by decide
theorem pos_key {s A : Nat} (hs : s < 8) (hA : A < 2 ^ 31) : ((i32 s).toInt64 <<< ((32 : Int32).toInt64 &&& 63)) + (i32 A).toInt64 = i64 (s * 4294967296 + A) := by
  have h : ((i32 s).toInt64 <<< ((32 : Int32).toInt64 &&& 63)) = i64 (s * 4294967296) := shl32 ⟨s, hs⟩
  rw [h, i32_64 hA, i64_add]
theorem key3 {ro : Nat → Nat} {μ : Mem} {ρ : RS} {pl : Nat → Nat} {N i c lPl aX aY nc rt aT nt lC aW hH eE rR an k a : Nat} {o2 cd : Option Nat} (day : Int32) (w : WF μ) (lo : LO μ) (h1 : Is ro μ c 2 (PFc lPl aX aY nc rt aT nt lC aW hH eE rR an)) (hP : IP ro μ ρ pl N i) (hi : i < 30) (hS : IS ro μ rR) (hr : IR ro μ ρ 0 rt) (s1 : S_Pl_shapeOn (some (pl i)) day μ = some (some a)) (s2 : R_M_shapeOf (i32 i) day ρ = some (i32 (3 * i + k))) (hk : k < 3) (s3 : IZ ro μ ρ (3 * i + k) a) : ∃ (μ' : Mem) (ρ' : RS) (κ : Int64), S_P_orderKey (some c) (some (pl i)) 3 cd o2 day μ = some (κ, μ') ∧ R_M_makeKeys (i32 i) day 3 ρ = some ((), ρ') ∧ Ext (fun q => q = 15) ro μ ro μ' ∧ IS ro μ' rR ∧ mkR ρ ρ' i ∧ KR3 ρ' κ i := by
  obtain ⟨sh, sd, nm, lk, p1, p2⟩ := hP
  obtain ⟨n, r1, r2, r3, r4⟩ := hr
  obtain ⟨m, z1, z2, z3, z4, z5, z6⟩ := s3
  obtain ⟨μ', o, fs, g1, g2, g3, g4, g5⟩ := Rs_start_eq w lo hS r3 z4 r4 z5 r2 z3
  obtain ⟨ρ1, o', f1, f2, f3, f4⟩ := R_nearest_eq (ρ := ρ) (s := 0) (t := 3 * i + k) (n := n) (m := m) (by decide) (by omega) s2 r1 z1 r4 z5 r2 z3
  obtain ⟨x, y, z, u, v, t, hS8⟩ := hS
  have expC : ∀ κ, S_Rs_positionKey (some rR) μ' = some κ → S_P_orderKey (some c) (some (pl i)) 3 cd o2 day μ = some (κ, μ') := by
    intro κ hκ
    have h1' := h1.ext g2 (by decide)
    unfold S_P_orderKey S_P_routeKey
    rw [if_neg (by decide), if_neg (by decide), if_pos rfl, rc_at p1.1, b1_some, s1, b1_some, rc_at h1.1, b1_some, if_neg (some_ne _), gR_at h1.1 (k := 11) rfl, b1_some, gR_at h1.1 (k := 4) rfl, b1_some, rc_at hS8.1, b1_some, g1, b2_some, gR_at h1'.1 (k := 11) rfl, b1_some, rc_at g3.1, b1_some, hκ, b1_some, b2_some]
  have r30 : rgI ρ 30 5 0 = some (i32 n) := by
    rw [show (0 : Int32) = i32 0 from rfl, rgI_at (by decide) (by decide), r1]
  have expR : R_M_makeKeys (i32 i) day 3 ρ = if i32 n ≤ 1 then some ((), ρ) else some ((), rsetL (rsetL (rset ρ1 52 (upd (ra ρ1 52) i (ri ρ1 49))) 53 (vp_updL (rL ρ1 53) i (rl ρ1 47))) 54 (vp_updL (rL ρ1 54) i (rl ρ1 48))) := by
    unfold R_M_makeKeys RB_M_makeKeys_111 RB_M_makeKeys_169
    rw [if_neg (by decide), if_neg (by decide), if_pos rfl, r30, b1_some]
    by_cases h : i32 n ≤ 1
    · rw [if_pos h, if_pos h]
      rfl
    · rw [if_neg h, if_neg h, show (0 : Int32) = i32 0 from rfl, f1, c2_some, rsI_at hi (by decide), b1_some, rsL_at hi (by decide), b1_some, rsL_at hi (by decide), b1_some]
      rfl
  by_cases hn : n ≤ 1
  · have ho : o = none := by
      cases o with
      | none => rfl
      | some cc => exact absurd g5.1.1 (by omega)
    subst ho
    refine ⟨μ', ρ, 0, expC 0 ?_, by rw [expR, if_pos (show i32 n ≤ (1 : Int32) from (i32_le (b := 1) (by omega) (by decide)).mpr hn)], g2, rsC.is g3 g4, mkR.rf _ _, ⟨n, r1, r2, .inl ⟨hn, rfl⟩⟩⟩
    obtain ⟨a1, a2, a3, a4, a5, rfl⟩ := g4
    unfold S_Rs_positionKey
    rw [gI_at g3.1 (k := 0) rfl, b1_some, if_pos rfl]
    rfl
  · rcases g5.one f4 with ⟨q1, q2⟩ | ⟨s, j, j', q1, q2, q3, q4⟩
    · rw [q1] at g5
      exact absurd ⟨by omega, by omega⟩ (g5 0 0)
    · subst q1
      subst q2
      have hV : s + 1 < n ∧ j < m := g5.1
      obtain ⟨b1', b2, b3, b4, b5, b6⟩ := c_bd (X := rX ρ) (Y := rY ρ) (U := fun q => ra ρ 7 (8 * (3 * i + k) + q)) (V := fun q => ra ρ 8 (8 * (3 * i + k) + q)) r4 z5 hV.1 hV.2
      obtain ⟨t1, t2, t3, t4, t5⟩ := f3
      have hfs : fs = _ := g4
      have hm : mkR ρ (rsetL (rsetL (rset ρ1 52 (upd (ra ρ1 52) i (ri ρ1 49))) 53 (vp_updL (rL ρ1 53) i (rl ρ1 47))) 54 (vp_updL (rL ρ1 54) i (rl ρ1 48))) i := (((f2.sc.mk i).tr (mkR.i52 ρ1 i (ri ρ1 49))).tr (mkR.i53 _ i (rl ρ1 47))).tr (mkR.i54 _ i (rl ρ1 48))
      refine ⟨μ', _, i64 (s * 4294967296 + cA (rX ρ) (rY ρ) (fun q => ra ρ 7 (8 * (3 * i + k) + q)) (fun q => ra ρ 8 (8 * (3 * i + k) + q)) s j), expC _ ?_, by rw [expR, if_neg (show ¬ i32 n ≤ (1 : Int32) from fun z => hn ((i32_le (b := 1) (by omega) (by decide)).mp z))], g2, rsC.is g3 g4, hm, ⟨n, ?_, r2, .inr ⟨by omega, s, cA (rX ρ) (rY ρ) (fun q => ra ρ 7 (8 * (3 * i + k) + q)) (fun q => ra ρ 8 (8 * (3 * i + k) + q)) s j, by omega, b3, ?_, ?_, ?_, ?_, ?_, rfl⟩⟩⟩
      · rw [hfs] at g3
        unfold S_Rs_positionKey B_Rs_positionKey_25
        rw [gI_at g3.1 (k := 0) rfl, b1_some, if_neg (by decide), gI_at g3.1 (k := 1) rfl, b1_some, gI_at g3.1 (k := 2) rfl, b1_some]
        show some (((i32 s).toInt64 <<< ((32 : Int32).toInt64 &&& 63)) + (i32 (cA (rX ρ) (rY ρ) (fun q => ra ρ 7 (8 * (3 * i + k) + q)) (fun q => ra ρ 8 (8 * (3 * i + k) + q)) s j)).toInt64) = _
        rw [pos_key (by omega) (by omega)]
      · rw [hm.1.1.2 30 (by decide)]
        exact r1
      · unfold rX rY
        rw [hm.1.1.2 31 (by decide), hm.1.1.2 32 (by decide)]
        exact b4
      · unfold rX rY
        rw [hm.1.1.2 31 (by decide), hm.1.1.2 32 (by decide)]
        exact b5
      · show upd (ra ρ1 52) i (ri ρ1 49) i = _
        rw [upd_at]
        exact t1
      · show vp_updL (rL ρ1 53) i (rl ρ1 47) i = _
        rw [updL_at, q4]
        exact t4
      · show vp_updL (rL ρ1 54) i (rl ρ1 48) i = _
        rw [updL_at]
        unfold rX rY
        rw [hm.1.1.2 31 (by decide), hm.1.1.2 32 (by decide)]
        exact t5
/-- the key of a place, by any order -/
theorem key_eq {ro : Nat → Nat} {μ : Mem} {ρ : RS} {pl : Nat → Nat} {N i c lPl aX aY nc rt aT nt lC aW hH eE rR an k a cd m : Nat} {o2 : Option Nat} {u : Nat → Int32} {kind x y z r1 r2 o : Int32} (ho : o = 0 ∨ o = 1 ∨ o = 2 ∨ o = 3) (day : Int32) (w : WF μ) (lo : LO μ) (h1 : Is ro μ c 2 (PFc lPl aX aY nc rt aT nt lC aW hH eE rR an)) (hP : IP ro μ ρ pl N i) (hi : i < 30) (hE : IE ro μ eE) (hS : IS ro μ rR) (hr : IR ro μ ρ 0 rt) (hn : ncQ ro μ ρ cd kind x y z m u r1) (hn1 : R_M_firstCondition 0 3 ρ = some r1) (hc : arQ ro μ ρ o2 r2) (hc1 : R_M_firstCondition 7 7 ρ = some r2) (s1 : S_Pl_shapeOn (some (pl i)) day μ = some (some a)) (s2 : R_M_shapeOf (i32 i) day ρ = some (i32 (3 * i + k))) (hk : k < 3) (s3 : IZ ro μ ρ (3 * i + k) a) : ∃ (μ' : Mem) (ρ' : RS) (κ : Int64), S_P_orderKey (some c) (some (pl i)) o (some cd) o2 day μ = some (κ, μ') ∧ R_M_makeKeys (i32 i) day o ρ = some ((), ρ') ∧ Ext WMt ro μ ro μ' ∧ IE ro μ' eE ∧ IS ro μ' rR ∧ mkR ρ ρ' i ∧ KRq o ρ' κ i := by
  rcases ho with rfl | rfl | rfl | rfl
  · exact ⟨μ, ρ, 0, rfl, rfl, Ext.rf w, hE, hS, mkR.rf _ _, .inl ⟨rfl, rfl⟩⟩
  · obtain ⟨μ', ρ', κ, g1, g2, g3, g4, g5, g6⟩ := key1 day w lo h1 hP hi hE hn hn1
    refine ⟨μ', ρ', κ, ?_, g2, g3.mono (fun r hr => WR.m hr), g4, hS.ext g3 (by unfold WR; omega), g5, .inr (.inl ⟨rfl, g6⟩)⟩
    unfold S_P_orderKey
    rw [if_pos rfl, rc_at h1.1, b1_some, g1, b2_some]
  · obtain ⟨ρ', κ, g1, g2, g3, g4⟩ := key2 (c := c) (cd := some cd) day hP hi hc hc1 s1 s2 hk s3
    exact ⟨μ, ρ', κ, g1, g2, Ext.rf w, hE, hS, g3, .inr (.inr (.inl ⟨rfl, g4⟩))⟩
  · obtain ⟨μ', ρ', κ, g1, g2, g3, g4, g5, g6⟩ := key3 (cd := some cd) (o2 := o2) day w lo h1 hP hi hS hr s1 s2 hk s3
    exact ⟨μ', ρ', κ, g1, g2, g3.mono (fun r hr => .inr hr), hE.ext g3 (by decide) (fun i _ => by omega), g4, g5, .inr (.inr (.inr ⟨rfl, g6⟩))⟩
