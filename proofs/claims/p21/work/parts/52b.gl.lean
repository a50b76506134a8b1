/-! PHASE G: glue of the law about the runs. -/
section GmS
variable {pv pw : Nat → Int} {D M : SyM} {S : AmS} {rest : List MsF} {c : MsC} {L : Nat} {xs : Nat → Int32}
/-- frames over other parameters -/
theorem fr_cv {s : List (Nat × SyV)} {r q : List SyF} {fs : List MsF} {m : List Nat} (h : sy_lF s r q = true) (hF : sy_Fs pv rest q fs) (hb : r.all (sy_bF m) = true) (hp : ∀ p ∈ m, sy_pv pv s p = pw p) : sy_Fs pw rest r fs := sy_b_F hp hb (sy_lF_ok h hF)
/-- two ints are added, or subtracted -/
theorem fr_bin {j n b : Nat} {ls : List (Nat × SyV)} {x y z : SyV} {st : List SyV} {fr : List SyF} (ho : (am_P.1 j)[n]? = some (8, 0, b, 0, [])) (hx : x.1 = 0) (hy : y.1 = 0) (hz : z.1 = 0) (hb : (b = 0 ∧ sy_n pv z = sy_n pv x + sy_n pv y) ∨ (b = 1 ∧ sy_n pv z = sy_n pv x - sy_n pv y)) (hr : -1000000 ≤ sy_n pv z ∧ sy_n pv z ≤ 1000000) (hF : sy_Fs pv rest ((j, n, ls, y :: x :: st) :: fr) c.1) : ∃ c', rch c c' ∧ sy_Fs pv rest ((j, n + 1, ls, z :: st) :: fr) c'.1 ∧ c'.2 = c.2 := by
  obtain ⟨fs, S⟩ := c
  obtain ⟨⟨f1, f2, f3, f4⟩, q, e, ⟨g1, g2, g3, g4⟩, hq⟩ := hF
  obtain ⟨v, vs, e1, hv, h1⟩ := g4.cons
  obtain ⟨w, ws, e2, hw, h2⟩ := h1.cons
  obtain ⟨yy, rfl, ey⟩ := hv.int hy
  obtain ⟨xx, rfl, ex⟩ := hw.int hx
  dsimp only at e g1 g2 g3 e1
  subst g1
  subst g2
  rw [e, e1, e2]
  rcases hb with ⟨rfl, hb⟩ | ⟨rfl, hb⟩
  · refine ⟨((f1, f2 + 1, f3, .int (xx + yy) :: ws) :: q, S), ms_nx1 (o := (8, 0, 0, 0, [])) ho rfl rfl (rch.rf _), ⟨_, q, rfl, ⟨rfl, rfl, g3, ?_, h2⟩, hq⟩, rfl⟩
    unfold sy_v
    rw [hz]
    refine ⟨_, rfl, ?_⟩
    rw [Int32.toInt_add, ex, ey, ← hb]
    exact sy_bm (by omega) (by omega)
  · refine ⟨((f1, f2 + 1, f3, .int (xx - yy) :: ws) :: q, S), ms_nx1 (o := (8, 0, 1, 0, [])) ho rfl rfl (rch.rf _), ⟨_, q, rfl, ⟨rfl, rfl, g3, ?_, h2⟩, hq⟩, rfl⟩
    unfold sy_v
    rw [hz]
    refine ⟨_, rfl, ?_⟩
    rw [Int32.toInt_sub, ex, ey, ← hb]
    exact sy_bm (by omega) (by omega)
/-- what a question's face is -/
theorem face_ok {st s so : Int} (hD : sy_lM ([], []) ((qf st).map (sy_suE [])) D = true) (hb : (qf st).all (sy_bE [1, 14]) = true) (h : sy_me pv D S) (h1 : pv 1 = s) (h14 : pv 14 = so) : face st s so S := sy_b_m (m := [1, 14]) (by exact aa.mem ⟨h1, h14, trivial⟩) hb (sy_lM0_ok sg_0 h hD)
theorem face_ok0 {st : Int} (hD : sy_lM ([], []) ((qf st).map (sy_suE [(1, (0, 0, 0, 0)), (14, (0, 0, 0, 0))])) D = true) (hb : (qf st).all (sy_bE [1, 14]) = true) (h : sy_me pv D S) : face st 0 0 S := sy_b_m (m := [1, 14]) (by exact aa.mem ⟨sy_n0 rfl, sy_n0 rfl, trivial⟩) hb (sy_lM_ok sg_0 h hD)
theorem face.sm {st s so : Int} {S' : AmS} (h : face st s so S) (hs : sy_sm S S') : face st s so S' := sy_me.sm h hs
end GmS
/-- the state as a parameter -/
theorem face.st {st : Nat} {s so : Int} {S : AmS} (hst : st = 0 ∨ st = 1 ∨ st = 2) (hq : face st s so S) : sy_me (sy_ev [0, s, 0, 0, 0, 0, 0, 0, 0, 0, 0, 0, 0, 0, so, 0, 0, 0, 0, (st : Int)]) lw_xe_D S := by
  rcases hst with rfl | rfl | rfl
  · have h := sy_lM_ok (pv := sy_ev [0, s, 0, 0, 0, 0, 0, 0, 0, 0, 0, 0, 0, 0, so]) (s := [(19, (0, 0, 0, 0))]) (A := lw_xe_D) sg_0 hq (by decide +kernel)
    have hp : ∀ p ∈ [1, 14, 19], sy_pv (sy_ev [0, s, 0, 0, 0, 0, 0, 0, 0, 0, 0, 0, 0, 0, so]) [(19, (0, 0, 0, 0))] p = sy_ev [0, s, 0, 0, 0, 0, 0, 0, 0, 0, 0, 0, 0, 0, so, 0, 0, 0, 0, ((0 : Nat) : Int)] p := sp_c (sp_i rfl rfl) (sp_c (sp_i rfl rfl) (sp_c (sp_k rfl rfl) sp_0))
    exact sy_b_m hp (by decide +kernel) h
  · have h := sy_lM_ok (pv := sy_ev [0, s, 0, 0, 0, 0, 0, 0, 0, 0, 0, 0, 0, 0, so]) (s := [(19, (0, 1, 0, 0))]) (A := lw_xe_D) sg_0 hq (by decide +kernel)
    have hp : ∀ p ∈ [1, 14, 19], sy_pv (sy_ev [0, s, 0, 0, 0, 0, 0, 0, 0, 0, 0, 0, 0, 0, so]) [(19, (0, 1, 0, 0))] p = sy_ev [0, s, 0, 0, 0, 0, 0, 0, 0, 0, 0, 0, 0, 0, so, 0, 0, 0, 0, ((1 : Nat) : Int)] p := sp_c (sp_i rfl rfl) (sp_c (sp_i rfl rfl) (sp_c (sp_k rfl rfl) sp_0))
    exact sy_b_m hp (by decide +kernel) h
  · have h := sy_lM_ok (pv := sy_ev [0, s, 0, 0, 0, 0, 0, 0, 0, 0, 0, 0, 0, 0, so]) (s := [(19, (0, 2, 0, 0))]) (A := lw_xe_D) sg_0 hq (by decide +kernel)
    have hp : ∀ p ∈ [1, 14, 19], sy_pv (sy_ev [0, s, 0, 0, 0, 0, 0, 0, 0, 0, 0, 0, 0, 0, so]) [(19, (0, 2, 0, 0))] p = sy_ev [0, s, 0, 0, 0, 0, 0, 0, 0, 0, 0, 0, 0, 0, so, 0, 0, 0, 0, ((2 : Nat) : Int)] p := sp_c (sp_i rfl rfl) (sp_c (sp_i rfl rfl) (sp_c (sp_k rfl rfl) sp_0))
    exact sy_b_m hp (by decide +kernel) h
