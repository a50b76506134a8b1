/-! PHASE G: the law about r and s, put together. -/
section SwS
variable {l : Nat → Int} {a b : Int} {n : Nat} {fa : Fa}
theorem sm_zero : ∀ (d m : Nat), sm l a (fun _ => 0) d m = 0 := by
  intro d
  induction d with
  | zero => intro m; rfl
  | succ d ih =>
    intro m
    rw [sm_s, ih (m + 1)]
    split <;> rfl
theorem sm_add {f g : Nat → Nat} : ∀ (d m : Nat), sm l a (fun i => f i + g i) d m = sm l a f d m + sm l a g d m := by
  intro d
  induction d with
  | zero => intro m; rfl
  | succ d ih =>
    intro m
    rw [sm_s, sm_s, sm_s, ih (m + 1)]
    by_cases h : l m = a
    · rw [if_pos h, if_pos h, if_pos h]
      omega
    · rw [if_neg h, if_neg h, if_neg h]
      omega
/-- sums in either order -/
theorem sm_swap {f : Nat → Nat → Nat} (e k : Nat) : ∀ (d m : Nat), sm l a (fun i => sm l b (fun j => f i j) e k) d m = sm l b (fun j => sm l a (fun i => f i j) d m) e k := by
  intro d
  induction d with
  | zero => intro m; exact (sm_zero e k).symm
  | succ d ih =>
    intro m
    rw [sm_s, ih (m + 1)]
    have e1 : (fun j => sm l a (fun i => f i j) (d + 1) m) = fun j => (if l m = a then f m j else 0) + sm l a (fun i => f i j) d (m + 1) := rfl
    rw [e1, sm_add (f := fun j => if l m = a then f m j else 0) (g := fun j => sm l a (fun i => f i j) d (m + 1)) e k]
    by_cases h : l m = a
    · rw [if_pos h]
      have e2 : (fun j => if l m = a then f m j else 0) = fun j => f m j := funext fun j => if_pos h
      rw [e2]
    · rw [if_neg h]
      have e2 : (fun j => if l m = a then f m j else 0) = fun _ => 0 := funext fun j => if_neg h
      rw [e2, sm_zero e k]
theorem gs_eq9 : gs_to n fa 0 = gr_to n fa 0 := (sm_swap (l := lt n fa) (a := 112) (b := 113) (f := fun i j => b1 (okq n fa i j)) (n + 6 - 0) 0 (n + 6 - 0) 0).symm
theorem b1_le (x : Bool) : b1 x ≤ 1 := by
  cases x with
  | false => exact Nat.zero_le _
  | true => exact Nat.le_refl _
end SwS
/-- the steps and the solutions of r, of s -/
def rN (n : Nat) (fa : Fa) : Int := ((1 + gr_st n fa 0 + tl n fa : Nat) : Int)
def rT (n : Nat) (fa : Fa) : Int := ((gr_to n fa 0 + c2 n fa 0 : Nat) : Int)
def sN (n : Nat) (fa : Fa) : Int := ((1 + gs_st n fa 0 + tl n fa : Nat) : Int)
section RsS
variable {pv pw : Nat → Int} {D Q R X : SyM} {b : Int} {S : AmS} {rest : List MsF} {c c' : MsC} {L : Nat} {xs : Nat → Int32} {n : Nat} {fa : Fa} {x5 x6 s so a0 a1 a2 : Int} {d5 d6 d5' d6' : List (SyV × SyV)}
theorem c2_le (hn : n ≤ 11) : c2 n fa 0 ≤ 17 := by
  have h := sm_le (l := lt n fa) (a := 112) (f := fun i => b1 (okq n fa i i)) (q := 1) (fun i => b1_le _) (n + 6 - 0) 0
  show sm (lt n fa) 112 (fun i => b1 (okq n fa i i)) (n + 6 - 0) 0 ≤ 17
  omega
theorem gr_ci_le (hn : n ≤ 11) (i : Nat) : gr_ci n fa i 0 ≤ 17 := by
  have h := sm_le (l := lt n fa) (a := 113) (f := fun j => b1 (okq n fa i j)) (q := 1) (fun i => b1_le _) (n + 6 - 0) 0
  show sm (lt n fa) 113 (fun j => b1 (okq n fa i j)) (n + 6 - 0) 0 ≤ 17
  omega
theorem gs_ci_le (hn : n ≤ 11) (i : Nat) : gs_ci n fa i 0 ≤ 17 := by
  have h := sm_le (l := lt n fa) (a := 112) (f := fun j => b1 (okq n fa j i)) (q := 1) (fun i => b1_le _) (n + 6 - 0) 0
  show sm (lt n fa) 112 (fun j => b1 (okq n fa j i)) (n + 6 - 0) 0 ≤ 17
  omega
theorem tl_le (hn : n ≤ 11) : tl n fa ≤ 18 := by
  have h := m1_le (c2_le (fa := fa) hn) (by decide)
  unfold tl
  omega
theorem rN_le (hn : n ≤ 11) : 0 ≤ rN n fa ∧ rN n fa ≤ 330 := by
  have h := sm_le (l := lt n fa) (a := 112) (f := fun i => 1 + m1 (gr_ci n fa i 0)) (q := 18) (fun i => by have := m1_le (gr_ci_le (fa := fa) hn i) (by decide); omega) (n + 6 - 0) 0
  have h2 : gr_st n fa 0 = sm (lt n fa) 112 (fun i => 1 + m1 (gr_ci n fa i 0)) (n + 6 - 0) 0 := rfl
  have h3 := tl_le (fa := fa) hn
  unfold rN
  omega
theorem sN_le (hn : n ≤ 11) : 0 ≤ sN n fa ∧ sN n fa ≤ 330 := by
  have h := sm_le (l := lt n fa) (a := 113) (f := fun i => 1 + m1 (gs_ci n fa i 0)) (q := 18) (fun i => by have := m1_le (gs_ci_le (fa := fa) hn i) (by decide); omega) (n + 6 - 0) 0
  have h2 : gs_st n fa 0 = sm (lt n fa) 113 (fun i => 1 + m1 (gs_ci n fa i 0)) (n + 6 - 0) 0 := rfl
  have h3 := tl_le (fa := fa) hn
  unfold sN
  omega
theorem rT_le (hn : n ≤ 11) : 0 ≤ rT n fa ∧ rT n fa ≤ 330 := by
  have h := sm_le (l := lt n fa) (a := 112) (f := fun i => gr_ci n fa i 0) (q := 17) (fun i => gr_ci_le hn i) (n + 6 - 0) 0
  have h2 : gr_to n fa 0 = sm (lt n fa) 112 (fun i => gr_ci n fa i 0) (n + 6 - 0) 0 := rfl
  have h3 := c2_le (fa := fa) hn
  unfold rT
  omega
theorem gr_J0 (h : gr_kR0 n fa a0 a1 a2 S) : gr_J 0 n fa (rN n fa) (rT n fa) 0 0 a0 a1 a2 S := ⟨Int.le_refl _, Or.inl ⟨rfl, Or.inl (Or.inl ⟨rfl, rfl, Int.zero_add _, Int.zero_add _, h⟩)⟩⟩
theorem gs_J0 (h : gs_kR0 n fa a0 a1 a2 S) : gs_J 0 n fa (sN n fa) (rT n fa) 0 0 a0 a1 a2 S := ⟨Int.le_refl _, Or.inl ⟨rfl, Or.inl (Or.inl ⟨rfl, rfl, Int.zero_add _, by rw [gs_eq9]; exact Int.zero_add _, h⟩)⟩⟩
theorem gr_J2 {N T : Int} (h : gr_J 2 n fa N T s so a0 a1 a2 S) : gr_kOV n fa s so a0 a1 a2 S := by
  obtain ⟨-, ⟨e, -⟩ | ⟨e, -⟩ | ⟨-, -, -, h⟩⟩ := h
  · exact absurd e (by decide)
  · exact absurd e (by decide)
  · exact h
theorem gs_J2 {N T : Int} (h : gs_J 2 n fa N T s so a0 a1 a2 S) : gs_kOV n fa s so a0 a1 a2 S := by
  obtain ⟨-, ⟨e, -⟩ | ⟨e, -⟩ | ⟨-, -, -, h⟩⟩ := h
  · exact absurd e (by decide)
  · exact absurd e (by decide)
  · exact h
/-- a row is not written -/
theorem row_keep {y : Int} {t z : Nat} {d : List (SyV × SyV)} {W : SyW} (h : sy_me pw [((4, y, 0, 0), t, z, none, d)] c.2) (hc : sy_ch pv W c c') (hW : ∀ w ∈ W, sy_n pv w.1 ≠ y) : sy_me pw [((4, y, 0, 0), t, z, none, d)] c'.2 := by
  intro e he
  obtain ⟨q, g1, g2, g3, g4, g5⟩ := h e he
  rcases List.mem_cons.mp he with rfl | he
  · have g9 : sy_n pw ((4, y, 0, 0) : SyV) = q := g1
    rw [sy_n0 rfl] at g9
    have g9 : y = q := g9
    refine ⟨q, g1, (hc.2.1 q g3).trans g2, g3.imp (fun z => Nat.lt_of_lt_of_le z hc.2.2) id, fun p hp => ?_, fun d hd => (nomatch hd)⟩
    obtain ⟨i, i1, i2⟩ := g4 p hp
    refine ⟨i, i1, ?_⟩
    rw [hc.1 q i g3 fun w hw z => hW w hw (by omega)]
    exact i2
  · cases he
/-- its kind stays -/
theorem row_kind {y : Int} {t z : Nat} {d : List (SyV × SyV)} {W : SyW} (h : sy_me pw [((4, y, 0, 0), t, z, none, d)] c.2) (hc : sy_ch pv W c c') : sy_me pw [((4, y, 0, 0), t, z, none, [])] c'.2 := by
  intro e he
  obtain ⟨q, g1, g2, g3, -⟩ := h _ List.mem_cons_self
  rcases List.mem_cons.mp he with rfl | he
  · exact ⟨q, g1, (hc.2.1 q g3).trans g2, g3.imp (fun z => Nat.lt_of_lt_of_le z hc.2.2) id, fun p hp => (nomatch hp), fun d hd => (nomatch hd)⟩
  · cases he
theorem rw_l (h : sy_me pv (rwX x5 x6 d5 d6) S) : sy_me pv [((4, x5, 0, 0), 61, 2, none, d5)] S := fun e he => by
  rcases List.mem_cons.mp he with rfl | he
  · exact h _ List.mem_cons_self
  · cases he
theorem rw_r (h : sy_me pv (rwX x5 x6 d5 d6) S) : sy_me pv [((4, x6, 0, 0), 62, 2, none, d6)] S := fun e he => by
  rcases List.mem_cons.mp he with rfl | he
  · exact h _ (List.mem_cons_of_mem _ List.mem_cons_self)
  · cases he
/-- a row, by the parameter that names it -/
theorem row_in {p t z : Nat} {y : Int} {d d' : List (SyV × SyV)} (h : sy_me pv [((4, 0, p, 1), t, z, none, d)] S) (hp : pv p = y) (hd : sq_pl pv pw d d') : sy_me pw [((4, y, 0, 0), t, z, none, d')] S :=
  sq_M.ok (pv := pv) (l := [((4, 0, p, 1), t, z, none, d)]) ⟨(show 0 + ((1 : Nat) : Int) * pv p = y by omega).trans (sy_n0 (pv := pw) (a := (4, y, 0, 0)) rfl).symm, rfl, rfl, rfl, hd, trivial⟩ h
theorem row_by {p t z : Nat} {y : Int} {d d' : List (SyV × SyV)} (h : sy_me pw [((4, y, 0, 0), t, z, none, d)] S) (hp : pv p = y) (hd : sq_pl pw pv d d') : sy_me pv [((4, 0, p, 1), t, z, none, d')] S :=
  sq_M.ok (pv := pw) (l := [((4, y, 0, 0), t, z, none, d)]) ⟨(sy_n0 rfl).trans (show y = 0 + ((1 : Nat) : Int) * pv p by omega), rfl, rfl, rfl, hd, trivial⟩ h
/-- of the face of a question that is over -/
theorem hb_face (hR : sy_me pw R S) (hb : (R.any (fun e => qe_M [e] lw_HB) && lw_HB.all (sy_bE [])) = true) (hq : face 2 s so S) (h1 : pv 1 = s) (h14 : pv 14 = so) : sy_me pv (lw_HB ++ qf 2) S := face.hb hR hb (sy_b_m (m := [1, 14]) (by exact aa.mem ⟨h1.symm, h14.symm, trivial⟩) (by decide +kernel) hq)
/-- r is run for the first time -/
theorem r_run0 (hP : PN gr_Q (lw_R ++ X) 0 L xs n fa c) (hF : lw0_A n x5 x6 [] c.1) (hk : gr_kR0 n fa a0 a1 a2 c.2) (hx5 : 54 ≤ x5 ∧ x5 ≤ 900000) (hx6 : 54 ≤ x6 ∧ x6 ≤ 900000) : ∃ c', rch c c' ∧ PN gr_Q (lw_R ++ X) 0 L xs n fa c' ∧ lw0_S n (rT n fa) x5 x6 [] c'.1 ∧ gr_J 2 n fa (rN n fa) (rT n fa) (rN n fa) (rT n fa) a0 a1 a2 c'.2 := by
  have hn := hP.nr
  have h1 := rN_le (fa := fa) hn.2
  have h2 := rT_le (fa := fa) hn.2
  obtain ⟨c1, r1, f1, s1, e1⟩ := lw0_b_m (Nat.zero_le _) hP.E ⟨by omega, by omega⟩ hx5 hx6 hF
  obtain ⟨c2, r2, p2, f2, j2⟩ := lw0_loop (hb_app lw_Rhb) h1.2 h2.2 ⟨by decide, by decide⟩ hx5 hx6 331 0 0 0 c1 (by omega) ⟨Int.le_refl _, h1.1⟩ (hP.sm s1 e1) f1 ((gr_J0 hk).sm s1)
  exact ⟨c2, r1.tr r2, p2, f2, j2⟩
/-- which way the calls are to be cut -/
theorem lw1_pick {n0 : Int} {fs : List MsF} (h : lw1_B8 n0 x5 x6 rest fs) : ∃ x : Int, 0 ≤ x ∧ x ≤ 3 ∧ lw1_B n0 x x5 x6 rest fs := by
  have key : ∀ x : Int, sy_Fs (sy_ev [n0, 0, 0, 0, 0, 0, 0, 0, 0, 0, 0, 0, 0, 0, 0, 0, x, x5, x6]) rest lw1_B8d fs := fun x => sy_b_F (m := [0, 17, 18]) (by exact aa.mem ⟨rfl, rfl, rfl, trivial⟩) lw1_B8b h
  obtain ⟨f, q, e1, ⟨g1, g2, g3, g4⟩, hq⟩ := h
  obtain ⟨w, ws, e2, w1, w2⟩ := g4.cons
  obtain ⟨x, rfl, k1, k2⟩ := w1
  rw [sy_n0 rfl] at k2
  refine ⟨x.toInt, k1, k2, ?_⟩
  obtain ⟨f', q', e1', ⟨h1, h2, h3, h4⟩, hq'⟩ := key x.toInt
  rw [e1] at e1'
  obtain ⟨rfl, rfl⟩ : f = f' ∧ q = q' := ⟨(List.cons.inj e1').1, (List.cons.inj e1').2⟩
  rw [e2] at h4
  refine ⟨f, q, e1, ⟨h1, h2, h3, ?_⟩, hq'⟩
  rw [e2]
  exact ⟨⟨x, rfl, by show x.toInt = 0 + ((1 : Nat) : Int) * x.toInt; omega⟩, h4.2⟩
/-- r is run once more, in calls of any length -/
theorem r_run1 (hL : L ≤ 1000) (hP : PN gr_Q (lw_R ++ X) 0 L xs n fa c) (hF : lw1_A n x5 x6 [] c.1) (hk : gr_kR0 n fa a0 a1 a2 c.2) (hx5 : 54 ≤ x5 ∧ x5 ≤ 900000) (hx6 : 54 ≤ x6 ∧ x6 ≤ 900000) : ∃ c', rch c c' ∧ PN gr_Q (lw_R ++ X) 0 L xs n fa c' ∧ lw1_S n (rT n fa) x5 x6 [] c'.1 ∧ gr_J 2 n fa (rN n fa) (rT n fa) (rN n fa) (rT n fa) a0 a1 a2 c'.2 := by
  have hn := hP.nr
  have h1 := rN_le (fa := fa) hn.2
  have h2 := rT_le (fa := fa) hn.2
  obtain ⟨c1, r1, f1, s1, e1⟩ := lw1_b_m hL (Nat.zero_le _) hP.E ⟨by omega, by omega⟩ hx5 hx6 hF
  have p1 := hP.sm s1 e1
  obtain ⟨x, x1, x2, f1⟩ := lw1_pick f1
  obtain ⟨c2, r2, f2, s2, e2⟩ := lw1_d_m (Nat.zero_le _) p1.E ⟨by omega, by omega⟩ ⟨x1, x2⟩ hx5 hx6 f1
  obtain ⟨c3, r3, p3, f3, j3⟩ := lw1_loop (hb_app lw_Rhb) h1.2 h2.2 ⟨by omega, by omega⟩ hx5 hx6 331 0 0 0 c2 (by omega) ⟨Int.le_refl _, h1.1⟩ (p1.sm s2 e2) f2 (((gr_J0 hk).sm s1).sm s2)
  exact ⟨c3, r1.tr (r2.tr r3), p3, f3, j3⟩
/-- its counts are kept -/
theorem r_cnt0 (hP : PN gr_Q (lw_R ++ rwX x5 x6 [] []) 0 L xs n fa c) (hF : lw0_S n (rT n fa) x5 x6 [] c.1) (hJ : gr_J 2 n fa (rN n fa) (rT n fa) (rN n fa) (rT n fa) a0 a1 a2 c.2) (hx5 : 54 ≤ x5 ∧ x5 ≤ 900000) (hx6 : 54 ≤ x6 ∧ x6 ≤ 900000) (h56 : x5 < x6) : ∃ c', rch c c' ∧ LN L xs n fa c' ∧ lw_T1 n x5 x6 [] c'.1 ∧ sy_me (qv n 0) (rwX x5 x6 [((0, 0, 0, 0), (0, rT n fa, 0, 0))] [((0, 0, 0, 0), (1, 1000 * rN n fa, 0, 0))]) c'.2 ∧ ((c'.2.2.2.1 : Int) = a0 ∧ (c'.2.2.2.2.1 : Int) = a1 ∧ (c'.2.2.2.2.2 : Int) = a2) := by
  have hn := hP.nr
  have h1 := rN_le (fa := fa) hn.2
  have h2 := rT_le (fa := fa) hn.2
  have hV := gr_J2 hJ
  obtain ⟨l0, hX⟩ := LN.of_r hP hV
  have hq : face 2 (rN n fa) (rT n fa) c.2 := gr_Jq hJ
  have ht : (c.2.2.2.1 : Int) = a0 ∧ (c.2.2.2.2.1 : Int) = a1 ∧ (c.2.2.2.2.2 : Int) = a2 := hV.2
  obtain ⟨c1, r1, f1, m1, t1, e1, ch1⟩ := lw0_s_m (Nat.zero_le _) hP.E ⟨by omega, by omega⟩ ⟨h1.1, by omega⟩ ⟨h2.1, by omega⟩ hx5 hx6 hF ((hb_face hP.2.1.2 (hb_app lw_Rhb) hq rfl rfl).app (rw5 hX rfl trivial)) ht
  have k1 : lowk c c1 := .of ch1 l0.1.top fun w hw => by
    rcases List.mem_cons.mp hw with rfl | hw
    · show (54 : Int) ≤ 0 + ((1 : Nat) : Int) * x5
      omega
    · cases hw
  have l1 := l0.low k1 e1
  have q1 : face 2 (rN n fa) (rT n fa) c1.2 := sy_me.low hq k1 (by decide +kernel)
  have x1 := row_keep (rw_r hX) ch1 fun w hw => by
    rcases List.mem_cons.mp hw with rfl | hw
    · show 0 + ((1 : Nat) : Int) * x5 ≠ x6
      omega
    · cases hw
  obtain ⟨c2, r2, f2, u2⟩ := fr_mul (j := 163) (m := 206) (pv := sy_ev [(n : Int), rN n fa, 0, 0, 0, 0, 0, 0, 0, 0, 0, 0, 0, 0, 0, 0, 0, x5, x6]) rfl ⟨h1.1, by show rN n fa ≤ 1000; omega⟩ f1
  have l2 := l1.mem u2
  obtain ⟨c3, r3, f3, s3, e3⟩ := lw0_f_m (Nat.zero_le _) l2.1.E ⟨by omega, by omega⟩ ⟨h1.1, by omega⟩ ⟨h2.1, by omega⟩ hx5 hx6 f2 (hb_face l2.1.2.1.2 lw_Rhb (by rw [u2]; exact q1) rfl rfl)
  obtain ⟨c4, r4, f4, u4⟩ := fr_ladd (j := 163) (m := 211) (pv := sy_ev [(n : Int), rN n fa, 0, 0, 0, 0, 0, 0, 0, 0, 0, 0, 0, 0, 0, 0, 0, x5, x6]) rfl ⟨h1.1, by show rN n fa ≤ 1000; omega⟩ f3
  have l4 := (l2.sm s3 e3).mem u4
  have mv : ∀ {D : SyM} {pv : Nat → Int}, sy_me pv D c1.2 → sy_me pv D c4.2 := fun {D pv} h => by
    rw [u4]
    refine sy_me.sm ?_ s3
    rw [u2]
    exact h
  have x4 := mv x1
  have t4 : (c4.2.2.2.1 : Int) = a0 ∧ (c4.2.2.2.2.1 : Int) = a1 ∧ (c4.2.2.2.2.2 : Int) = a2 := by
    rw [u4, s3.2, u2]
    exact t1
  obtain ⟨c5, r5, f5, m5, t5, e5, ch5⟩ := lw0_g_m (Nat.zero_le _) l4.1.E ⟨by omega, by omega⟩ ⟨h1.1, by omega⟩ hx5 hx6 f4 (row_by (p := 18) x4 rfl trivial) t4
  have k5 : lowk c4 c5 := .of ch5 l4.1.top fun w hw => by
    rcases List.mem_cons.mp hw with rfl | hw
    · show (54 : Int) ≤ 0 + ((1 : Nat) : Int) * x6
      omega
    · cases hw
  have x5' : sy_me (qv n 0) [((4, x5, 0, 0), 61, 2, none, [((0, 0, 0, 0), (0, rT n fa, 0, 0))])] c5.2 := row_keep (row_in (p := 17) (mv m1) rfl ⟨(sy_n0 rfl).trans (sy_n0 rfl).symm, ⟨rfl, rfl, (show 0 + ((1 : Nat) : Int) * rT n fa = rT n fa by omega).trans (sy_n0 (pv := qv n 0) (a := (0, rT n fa, 0, 0)) rfl).symm⟩, trivial⟩) ch5 fun w hw => by
    rcases List.mem_cons.mp hw with rfl | hw
    · show 0 + ((1 : Nat) : Int) * x6 ≠ x5
      omega
    · cases hw
  have x6' : sy_me (qv n 0) [((4, x6, 0, 0), 62, 2, none, [((0, 0, 0, 0), (1, 1000 * rN n fa, 0, 0))])] c5.2 := row_in (p := 18) m5 rfl ⟨(sy_n0 rfl).trans (sy_n0 rfl).symm, ⟨rfl, rfl, (show 0 + ((1000 : Nat) : Int) * rN n fa = 1000 * rN n fa by omega).trans (sy_n0 (pv := qv n 0) (a := (1, 1000 * rN n fa, 0, 0)) rfl).symm⟩, trivial⟩
  exact ⟨c5, r1.tr (r2.tr (r3.tr (r4.tr r5))), l4.low k5 e5, f5, x5'.app x6', t5⟩
/-- they come out as before -/
theorem r_cnt1 (hP : PN gr_Q (lw_R ++ rwX x5 x6 [((0, 0, 0, 0), (0, rT n fa, 0, 0))] [((0, 0, 0, 0), (1, 1000 * rN n fa, 0, 0))]) 0 L xs n fa c) (hF : lw1_S n (rT n fa) x5 x6 [] c.1) (hJ : gr_J 2 n fa (rN n fa) (rT n fa) (rN n fa) (rT n fa) a0 a1 a2 c.2) (hx5 : 54 ≤ x5 ∧ x5 ≤ 900000) (hx6 : 54 ≤ x6 ∧ x6 ≤ 900000) (h56 : x5 < x6) : ∃ c', rch c c' ∧ LN L xs n fa c' ∧ lw_T2 n x5 x6 [] c'.1 ∧ sy_me (qv n 0) (rwX x5 x6 [((0, 0, 0, 0), (0, rT n fa, 0, 0))] []) c'.2 ∧ ((c'.2.2.2.1 : Int) = a0 ∧ (c'.2.2.2.2.1 : Int) = a1 ∧ (c'.2.2.2.2.2 : Int) = a2) := by
  have hn := hP.nr
  have h1 := rN_le (fa := fa) hn.2
  have h2 := rT_le (fa := fa) hn.2
  have hV := gr_J2 hJ
  obtain ⟨l0, hX⟩ := LN.of_r hP hV
  have hq : face 2 (rN n fa) (rT n fa) c.2 := gr_Jq hJ
  have ht : (c.2.2.2.1 : Int) = a0 ∧ (c.2.2.2.2.1 : Int) = a1 ∧ (c.2.2.2.2.2 : Int) = a2 := hV.2
  obtain ⟨c1, r1, f1, m1, t1, e1, ch1⟩ := lw1_s_m (Nat.zero_le _) hP.E ⟨by omega, by omega⟩ ⟨h1.1, by omega⟩ ⟨h2.1, by omega⟩ hx5 hx6 hF ((hb_face hP.2.1.2 (hb_app lw_Rhb) hq rfl rfl).app (rw5 hX rfl ⟨(sy_n0 rfl).trans (sy_n0 rfl).symm, ⟨rfl, rfl, (sy_n0 rfl).trans (by show rT n fa = 0 + ((1 : Nat) : Int) * rT n fa; omega)⟩, trivial⟩)) ht
  have k1 : lowk c c1 := .of ch1 l0.1.top fun w hw => by
    rcases List.mem_cons.mp hw with rfl | hw
    · show (54 : Int) ≤ 0 + ((1 : Nat) : Int) * x5
      omega
    · cases hw
  have l1 := l0.low k1 e1
  have q1 : face 2 (rN n fa) (rT n fa) c1.2 := sy_me.low hq k1 (by decide +kernel)
  have x1 := row_keep (rw_r hX) ch1 fun w hw => by
    rcases List.mem_cons.mp hw with rfl | hw
    · show 0 + ((1 : Nat) : Int) * x5 ≠ x6
      omega
    · cases hw
  obtain ⟨c2, r2, f2, u2⟩ := fr_mul (j := 163) (m := 206) (pv := sy_ev [(n : Int), rN n fa, 0, 0, 0, 0, 0, 0, 0, 0, 0, 0, 0, 0, 0, 0, 0, x5, x6]) rfl ⟨h1.1, by show rN n fa ≤ 1000; omega⟩ f1
  have l2 := l1.mem u2
  obtain ⟨c3, r3, f3, s3, e3⟩ := lw1_f_m (Nat.zero_le _) l2.1.E ⟨by omega, by omega⟩ ⟨h1.1, by omega⟩ ⟨h2.1, by omega⟩ hx5 hx6 f2 (hb_face l2.1.2.1.2 lw_Rhb (by rw [u2]; exact q1) rfl rfl)
  obtain ⟨c4, r4, f4, u4⟩ := fr_ladd (j := 163) (m := 211) (pv := sy_ev [(n : Int), rN n fa, 0, 0, 0, 0, 0, 0, 0, 0, 0, 0, 0, 0, 0, 0, 0, x5, x6]) rfl ⟨h1.1, by show rN n fa ≤ 1000; omega⟩ f3
  have l4 := (l2.sm s3 e3).mem u4
  have mv : ∀ {D : SyM} {pv : Nat → Int}, sy_me pv D c1.2 → sy_me pv D c4.2 := fun {D pv} h => by
    rw [u4]
    refine sy_me.sm ?_ s3
    rw [u2]
    exact h
  have x4 := mv x1
  have t4 : (c4.2.2.2.1 : Int) = a0 ∧ (c4.2.2.2.2.1 : Int) = a1 ∧ (c4.2.2.2.2.2 : Int) = a2 := by
    rw [u4, s3.2, u2]
    exact t1
  have q4 : face 2 (rN n fa) (rT n fa) c4.2 := mv q1
  have m4 : sy_me (sy_ev [0, rN n fa, 0, 0, 0, 0, 0, 0, 0, 0, 0, 0, 0, 0, rT n fa, 0, 0, x5, x6]) lw1_s_M c4.2 := sy_b_m (m := [14, 17]) (by exact aa.mem ⟨rfl, rfl, trivial⟩) (by decide +kernel) (mv m1)
  have x4' : sy_me (sy_ev [0, rN n fa, 0, 0, 0, 0, 0, 0, 0, 0, 0, 0, 0, 0, rT n fa, 0, 0, x5, x6]) [((4, 0, 18, 1), 62, 2, none, [((0, 0, 0, 0), (1, 0, 1, 1000))])] c4.2 := row_by (p := 18) x4 rfl ⟨(sy_n0 rfl).trans (sy_n0 rfl).symm, ⟨rfl, rfl, (sy_n0 rfl).trans (by show 1000 * rN n fa = 0 + ((1000 : Nat) : Int) * rN n fa; omega)⟩, trivial⟩
  obtain ⟨c5, r5, f5, m5, t5, e5, ch5⟩ := lw1_g_m (Nat.zero_le _) l4.1.E ⟨by omega, by omega⟩ ⟨h1.1, by omega⟩ ⟨h2.1, by omega⟩ hx5 hx6 h56 f4 ((hb_face l4.1.2.1.2 lw_Rhb q4 rfl rfl).app (x4'.app m4)) t4
  have k5 : lowk c4 c5 := .of ch5 l4.1.top fun w hw => by
    rcases List.mem_cons.mp hw with rfl | hw
    · show (54 : Int) ≤ 0 + ((1 : Nat) : Int) * x6
      omega
    · cases hw
  have x5' : sy_me (qv n 0) [((4, x5, 0, 0), 61, 2, none, [((0, 0, 0, 0), (0, rT n fa, 0, 0))])] c5.2 := row_in (p := 17) m5 rfl ⟨(sy_n0 rfl).trans (sy_n0 rfl).symm, ⟨rfl, rfl, (show 0 + ((1 : Nat) : Int) * rT n fa = rT n fa by omega).trans (sy_n0 (pv := qv n 0) (a := (0, rT n fa, 0, 0)) rfl).symm⟩, trivial⟩
  have x6' : sy_me (qv n 0) [((4, x6, 0, 0), 62, 2, none, [])] c5.2 := row_kind x4 ch5
  exact ⟨c5, r1.tr (r2.tr (r3.tr (r4.tr r5))), l4.low k5 e5, f5, x5'.app x6', t5⟩
end RsS
theorem lws_loop {R : SyM} {L : Nat} {xs : Nat → Int32} {n : Nat} {fa : Fa} {N T a0 a1 a2 x5 x6 : Int} (hb : (R.any (fun e => qe_M [e] lw_HB) && lw_HB.all (sy_bE [])) = true) (hN : N ≤ 330) (hT : T ≤ 330) (hx5 : 54 ≤ x5 ∧ x5 ≤ 900000) (hx6 : 54 ≤ x6 ∧ x6 ≤ 900000) : ∀ (d : Nat) (s so : Int) (st : Nat) (c : MsC), N < s + d → 0 ≤ s ∧ s ≤ N → PN gs_Q R 0 L xs n fa c → lws_L n x5 x6 [] c.1 → gs_J st n fa N T s so a0 a1 a2 c.2 → ∃ c', rch c c' ∧ PN gs_Q R 0 L xs n fa c' ∧ lws_L n x5 x6 [] c'.1 ∧ gs_J 2 n fa N T N T a0 a1 a2 c'.2 := by
  intro d
  induction d with
  | zero => intro s so st c hd hs; omega
  | succ d ih =>
    intro s so st c hd hs hP hF hJ
    have hn := hP.nr
    have hso := gs_Jo hJ
    have hst : st = 2 ∨ (st = 0 ∨ st = 1) := by
      obtain ⟨-, ⟨e, -⟩ | ⟨e, -⟩ | ⟨e, -⟩⟩ := hJ
      · exact Or.inr (Or.inl e)
      · exact Or.inr (Or.inr e)
      · exact Or.inl e
    have hq := gs_Jq hJ
    rcases hst with rfl | hst
    · obtain ⟨e1, e2⟩ := (gs_Jf hJ).2 rfl
      rw [e1, e2] at hJ
      exact ⟨c, rch.rf _, hP, hF, hJ⟩
    · have go : (∃ c1, rch c c1 ∧ lws_Rs n 500 x5 x6 [] c1.1 ∧ sy_sm c.2 c1.2 ∧ sy_E0 L xs c1) → ∃ c', rch c c' ∧ PN gs_Q R 0 L xs n fa c' ∧ lws_L n x5 x6 [] c'.1 ∧ gs_J 2 n fa N T N T a0 a1 a2 c'.2 := fun ⟨c1, r1, f1, s1, e1⟩ => by
        have p1 := hP.sm s1 e1
        obtain ⟨mid, h2, h3⟩ := sy_Fs_app (A := lw_F0d) (B := lws_Rsd.tail) f1
        have f0 : lw_F0 500 mid c1.1 := sy_b_F (m := [3]) (by exact aa.mem ⟨rfl, trivial⟩) lw_F0b h3
        have hmid : lws_R n 500 x5 x6 [] mid := h2
        have hml := sy_Fs.len h2
        have hml : mid.length = 2 := hml
        obtain ⟨k', s', so', st', c2, r2, p2, f2, j2, q1, q2, q3⟩ := gs_rn (by omega) hN hT ⟨by decide, by decide⟩ p1 hst f0 (hJ.sm s1) hs hso
        obtain ⟨c3, r3, f3, e3⟩ := lw_sub f2 q1 ⟨by omega, by omega⟩
        have p3 := p2.mem e3
        have j3 : gs_J st' n fa N T s' so' a0 a1 a2 c3.2 := by rw [e3]; exact j2
        have hs3 : s' ≤ N := gs_Js j3
        have g1 : sy_Fs (sy_ev [(n : Int), 0, k', 500, 0, 0, 0, 0, 0, 0, 0, 0, 0, 0, 0, 0, 0, x5, x6]) [] lws_Rd mid := sy_b_F (m := [0, 3, 17, 18]) (by exact aa.mem ⟨rfl, rfl, rfl, rfl, trivial⟩) lws_Rb hmid
        have g2 : sy_Fs (sy_ev [(n : Int), 0, k', 500, 0, 0, 0, 0, 0, 0, 0, 0, 0, 0, 0, 0, 0, x5, x6]) mid lw_F47d c3.1 := sy_b_F (m := [2]) (by exact aa.mem ⟨rfl, trivial⟩) lw_F47b f3
        have f5 : lws_C n k' 500 x5 x6 [] c3.1 := sy_b_F (m := [0, 2, 3, 17, 18]) (by exact aa.mem ⟨rfl, rfl, rfl, rfl, rfl, trivial⟩) lws_Cb (sy_Fs_join g1 g2)
        obtain ⟨c4, r4, f4, s4, e4⟩ := lws_c_m (Nat.zero_le _) p3.E ⟨by omega, by omega⟩ ⟨by omega, by omega⟩ ⟨by decide, by decide⟩ hx5 hx6 f5
        have p4 := p3.sm s4 e4
        have j4 := j3.sm s4
        have rr := r1.tr (r2.tr (r3.tr r4))
        by_cases hk : k' = 0
        · have e2 := q3 hk
          subst e2
          obtain ⟨z1, z2⟩ := (gs_Jf j4).2 rfl
          rw [z1, z2] at j4
          exact ⟨c4, rr, p4, f4, j4⟩
        · obtain ⟨c5, r5, p5, f5, j5⟩ := ih s' so' st' c4 (by omega) ⟨by omega, hs3⟩ p4 f4 j4
          exact ⟨c5, rr.tr r5, p5, f5, j5⟩
      rcases hst with rfl | rfl
      · exact go (lws_i0_m (Nat.zero_le _) hP.E ⟨by omega, by omega⟩ ⟨by omega, by omega⟩ ⟨by omega, by omega⟩ hx5 hx6 hF (face.hb hP.2.1.2 hb hq))
      · exact go (lws_i1_m (Nat.zero_le _) hP.E ⟨by omega, by omega⟩ ⟨by omega, by omega⟩ ⟨by omega, by omega⟩ hx5 hx6 hF (face.hb hP.2.1.2 hb hq))
/-- the law about r and s holds -/
theorem law_rs {L : Nat} {xs : Nat → Int32} {n : Nat} {fa : Fa} {c : MsC} {a0 a1 a2 : Int} (hL1 : L ≤ 1000) (hL : LN L xs n fa c) (hF : lw_0 n [] c.1) (ht : (c.2.2.2.1 : Int) = a0 ∧ (c.2.2.2.2.1 : Int) = a1 ∧ (c.2.2.2.2.2 : Int) = a2) (b0 : 54 ≤ a0 ∧ a0 ≤ 800000) (b1 : 0 ≤ a1 ∧ a1 ≤ 800000) (b2 : 0 ≤ a2 ∧ a2 ≤ 800000) : ∃ c', rch c c' ∧ LN L xs n fa c' ∧ lws_E n [] c'.1 ∧ ((c'.2.2.2.1 : Int) = a0 + 8 ∧ (c'.2.2.2.2.1 : Int) = a1 + 8 ∧ (c'.2.2.2.2.2 : Int) = a2 + 1819) := by
  have hn := hL.1.nr
  have h1 := sN_le (fa := fa) hn.2
  have h2 := rT_le (fa := fa) hn.2
  have hx5 : 54 ≤ a0 ∧ a0 ≤ 900000 := ⟨b0.1, by omega⟩
  have hx6 : 54 ≤ a0 + 1 ∧ a0 + 1 ≤ 900000 := ⟨by omega, by omega⟩
  obtain ⟨c1, r1, f1, m1, t1, e1, ch1⟩ := lw_r_m (Nat.zero_le _) hL.1.E ⟨by omega, by omega⟩ ⟨b0.1, by omega⟩ ⟨b1.1, by omega⟩ ⟨b2.1, by omega⟩ hF ht
  have l1 := hL.low (.of ch1 hL.1.top fun w hw => (nomatch hw)) e1
  have x1 : sy_me (qv n 0) (rwX a0 (a0 + 1) [] []) c1.2 := sq_M.ok (pv := sy_ev [(n : Int), 0, 0, 0, 0, 0, 0, 0, 0, 0, 0, 0, 0, 0, 0, 0, 0, a0, (a0 + 1), 0, (a0 + 2), (a1 + 2), (a2 + 4)]) (l := lw_r_M) ⟨(show 0 + ((1 : Nat) : Int) * a0 = a0 by omega).trans (sy_n0 (pv := qv n 0) (a := (4, a0, 0, 0)) rfl).symm, rfl, rfl, rfl, trivial, (show 0 + ((1 : Nat) : Int) * (a0 + 1) = a0 + 1 by omega).trans (sy_n0 (pv := qv n 0) (a := (4, a0 + 1, 0, 0)) rfl).symm, rfl, rfl, rfl, trivial, trivial⟩ m1
  obtain ⟨c2, r2, f2, p2, k2, t2, w2⟩ := ak_r0 l1 f1 t1 ⟨by omega, by omega⟩ ⟨by omega, by omega⟩ ⟨by omega, by omega⟩
  have x2 := rwX_keep x1 w2 ⟨b0.1, by omega⟩ ⟨by omega, by omega⟩ (by omega)
  obtain ⟨c3, r3, p3, f3, j3⟩ := r_run0 (p2.add x2 (rwX_ko hx5.1 hx6.1)) f2 k2 hx5 hx6
  obtain ⟨c4, r4, l4, f4, x4, t4⟩ := r_cnt0 p3 f3 j3 hx5 hx6 (by omega)
  obtain ⟨c5, r5, f5, p5, k5, t5, w5⟩ := ak_r1 l4 f4 t4 ⟨by omega, by omega⟩ ⟨by omega, by omega⟩ ⟨by omega, by omega⟩
  have x5 := rwX_keep x4 w5 ⟨b0.1, by omega⟩ ⟨by omega, by omega⟩ (by omega)
  obtain ⟨c6, r6, p6, f6, j6⟩ := r_run1 hL1 (p5.add x5 (rwX_ko hx5.1 hx6.1)) f5 k5 hx5 hx6
  obtain ⟨c7, r7, l7, f7, x7, t7⟩ := r_cnt1 p6 f6 j6 hx5 hx6 (by omega)
  obtain ⟨c8, r8, f8, p8, k8, t8, w8⟩ := ak_s l7 f7 t7 ⟨by omega, by omega⟩ ⟨by omega, by omega⟩ ⟨by omega, by omega⟩
  have x8 := rwX_keep x7 w8 ⟨b0.1, by omega⟩ ⟨by omega, by omega⟩ (by omega)
  have p8 := p8.add x8 (rwX_ko hx5.1 hx6.1)
  obtain ⟨c9, r9, f9, s9, e9⟩ := lws_b_m (Nat.zero_le _) p8.E ⟨by omega, by omega⟩ hx5 hx6 f8
  obtain ⟨d1, q1, g1, f10, j10⟩ := lws_loop (hb_app lw_Rhb) h1.2 h2.2 hx5 hx6 331 0 0 0 c9 (by omega) ⟨Int.le_refl _, h1.1⟩ (p8.sm s9 e9) f9 ((gs_J0 k8).sm s9)
  have hV := gs_J2 j10
  obtain ⟨l10, x10⟩ := LN.of_s g1 hV
  have hq : face 2 (sN n fa) (rT n fa) d1.2 := gs_Jq j10
  obtain ⟨d2, q2, f11, s11, e11⟩ := lws_e_m (Nat.zero_le _) g1.E ⟨by omega, by omega⟩ ⟨h1.1, by omega⟩ ⟨h2.1, by omega⟩ hx5 hx6 f10 ((hb_face g1.2.1.2 (hb_app lw_Rhb) hq rfl rfl).app (rw5 x10 rfl ⟨(sy_n0 rfl).trans (sy_n0 rfl).symm, ⟨rfl, rfl, (sy_n0 rfl).trans (by show rT n fa = 0 + ((1 : Nat) : Int) * rT n fa; omega)⟩, trivial⟩))
  have t10 : (d1.2.2.2.1 : Int) = _ ∧ (d1.2.2.2.2.1 : Int) = _ ∧ (d1.2.2.2.2.2 : Int) = _ := hV.2
  refine ⟨d2, r1.tr (r2.tr (r3.tr (r4.tr (r5.tr (r6.tr (r7.tr (r8.tr (r9.tr (q1.tr q2))))))))), l10.sm s11 e11, f11, ?_⟩
  rw [s11.2]
  obtain ⟨y1, y2, y3⟩ := t10
  have y1 : (d1.2.2.2.1 : Int) = a0 + 2 + 2 + 2 + 2 := y1
  have y2 : (d1.2.2.2.2.1 : Int) = a1 + 2 + 2 + 2 + 2 := y2
  have y3 : (d1.2.2.2.2.2 : Int) = a2 + 4 + 605 + 605 + 605 := y3
  exact ⟨by omega, by omega, by omega⟩
