/-! THE SIMULATION: a call, and all of a body. -/
section AmCal
variable {p : Program} {l : Launch} {e : Env} {R : Room} {s : State} {m : MethodId} {args : Array Value} {below : List Frame} {meth : Method} {c : Code} {H : Heap} {locs : List Loc} {cells slots : Nat} {Q : State → Prop}
variable {f d' j n : Nat} {o : AmIns} {ls : AmL} {st as rs : List Value} {S S1 : AmS} {lsA : Array Slot} {ad ad0 ax : Nat → Nat} {B L t0 c0 s0 : Nat} {xs : Nat → Int32} {D : va_G} {r1 : AmO}
theorem am_preU (hE : am_E D B L xs ax s s.heap) (hI : am_I D B L xs ax s ad0 t0 c0 s0 ad S H locs cells slots) {U : State} (hU : U.heap = H) (hW : s.WarmedH U.vm) : am_E D B L xs ax U U.heap ∧ am_Rp D B L xs ax U ad S U.heap := by
  obtain ⟨hR, hS, -⟩ := hI
  rw [hU]
  exact ⟨hE.go hW hS.1 hS.2.1, hR.moved hW.alike⟩
set_option maxHeartbeats 4000000 in
theorem am_cal (hlf : l.stackTraces = false) (ih : am_Sim l f) (hF : am_Fr p s m args meth c j) (hj : j < 164) (ho : (am_P.1 j)[n]? = some o) (h40 : Nat.beq o.1 40 = true) (hE : am_E D B L xs ax s s.heap) (hI : am_I D B L xs ax s ad0 t0 c0 s0 ad S H locs cells slots) (hW : ∀ v ∈ st, am_wf S.2.2.1 v) (hz : lsA.size = am_ml j)
    (hRf : 10 + (d' + 1) ≤ R.frames) (hRl : 200 + 60 * (d' + 1) ≤ R.locals) (hst : st = as.reverse ++ rs) (hok : am_okc o.2.1 as rs S = true) (hg : am_go f d' o.2.1 0 (lv_args 0 as) [] S = some (r1, S1)) (hRc : S1.2.2.2.1 ≤ c0 + R.cells) (hRs : S1.2.2.2.2 ≤ s0 + R.slots) (hr1 : (∃ v, r1 = .inl v) ∨ o.2.2.2.1 = 0)
    (kk : ∀ v, r1 = .inl v → (∀ w, v = some w → ∀ a : Nat → Nat, am_tr a w = w) → ∀ (ad' : Nat → Nat) (H' : Heap) (locs' : List Loc) (cells' slots' : Nat), am_I D B L xs ax s ad0 t0 c0 s0 ad' S1 H' locs' cells' slots' → (∀ k, k < S.2.2.1 → ad' k = ad k) → W p l e R s m args below meth c H' locs' cells' slots' Q (F0 m (am_pc j (n + 1)) lsA (v.toList ++ rs.map (am_tr ad))))
    (kx : ∀ E a, r1 = .inr (E, a) → E < 3 → ∀ (ad' : Nat → Nat) (H' : Heap) (locs' : List Loc) (cells' slots' : Nat) (ce : Cell), am_I D B L xs ax s ad0 t0 c0 s0 ad' S1 H' locs' cells' slots' → (∀ k, k < S.2.2.1 → ad' k = ad k) → H'[ad' a]? = some ce → ce.vm = .none → s.vm.findClass (am_tX E) = some ce.cls → vx_W p l e R s m args below meth c H' locs' cells' slots' Q (F0 m (am_pc j n) lsA (rs.map (am_tr ad))) (ad' a)) :
    W p l e R s m args below meth c H locs cells slots Q (F0 m (am_pc j n) lsA (st.map (am_tr ad))) := by
  obtain ⟨hx, hb, hown, hml, hts, -, -⟩ := hF
  obtain ⟨hd, hk⟩ := am_kk_at hj ho
  have hk40 := am_hk40 hk h40
  clear hk
  obtain ⟨o1, o2, o3, o4⟩ := am_okx hok
  have hmo := am_go_mo _ _ _ _ _ _ _ _ _ hg
  have hwas : ∀ x ∈ as, am_wf S.2.2.1 x := fun x hx9 => hW x (by rw [hst]; exact List.mem_append_left _ (List.mem_reverse.mpr hx9))
  obtain ⟨mc, hmc⟩ : ∃ mc, mc + S.2.2.2.1 = S1.2.2.2.1 := ⟨S1.2.2.2.1 - S.2.2.2.1, by have := hmo.2.1; omega⟩
  obtain ⟨ms, hms⟩ : ∃ ms, ms + S.2.2.2.2 = S1.2.2.2.2 := ⟨S1.2.2.2.2 - S.2.2.2.2, by have := hmo.2.2; omega⟩
  have hC := hI.2.2.2.2.1
  have hSl := hI.2.2.2.2.2
  have hf : cells + mc ≤ R.cells ∧ slots + ms ≤ R.slots := ⟨by omega, by omega⟩
  have hpc : am_pc j n = (am_e j n).1 := rfl
  rw [hpc] at kx ⊢
  generalize am_e j n = ce at hd hk40 kx ⊢
  obtain ⟨pc, ins, len, ws⟩ := ce
  unfold am_k40 at hk40
  obtain ⟨hn, hk1⟩ := Bool.and_eq_true_iff.mp hk40
  clear hk40
  obtain ⟨k3, hk2⟩ := Bool.and_eq_true_iff.mp hk1
  clear hk1
  obtain ⟨kj, hk⟩ := Bool.and_eq_true_iff.mp hk2
  clear hk2
  replace hn := am_nx_e hn
  replace k3 := am_beq k3
  replace kj := am_blt kj
  dsimp only at hk hd k3 hn kx ⊢
  subst k3
  rw [hn] at kk
  obtain ⟨x1, x2, x3, x4, x5, x6, x7, x8, x9⟩ := am_mkx kj
  have hfr : (am_rm d' mc ms).frames + 1 ≤ R.frames := by show 10 + d' + 1 ≤ R.frames; omega
  have hlo : 8 + (am_ml o.2.1 + 11) + (am_rm d' mc ms).locals ≤ R.locals := by show 8 + (am_ml o.2.1 + 11) + (200 + 60 * d') ≤ R.locals; omega
  have hsum : (((rs.map (am_tr ad)).map fun v => v.category).sum) ≤ 8 := by rw [am_tr_sum]; exact o2
  have hS9 : CallFix p m c (am_b j) (am_ml j) s args am_T (am_own j) := ⟨hx, hb, hml, hown, hts⟩
  have hwC : am_hh o.2.1 = [] → ∀ w ∈ am_wsC o.2.1, w ∈ am_T := fun z w hw9 => by
    rcases List.mem_cons.mp hw9 with rfl | hw9
    · exact x6 z
    · exact hw9
  have hwH : am_hh o.2.1 ≠ [] → ∀ w ∈ am_wsH o.2.1, w ∈ am_T := fun z w hw9 => by
    rcases List.mem_cons.mp hw9 with rfl | hw9
    · exact x7 z
    · exact hw9
  have HV : (∃ ix, ins = .invokevirtual ix ∧ (o.2.2.2.1 = 0 ∧ am_hh o.2.1 = [] ∧ (am_y o.2.1).name ≠ "<init>" ∧ (am_P.2.1 o.2.1).1 ≠ 1) ∧ am_w (ws.getD 0 0) (.methodLink (am_own j) ix (am_y o.2.1)) = true) ∨
      (∃ ix, ins = .invokespecial ix ∧ ((am_y o.2.1).name = "<init>" ∧ am_rt o.2.1 = none ∧ am_hh o.2.1 = []) ∧ ((o.2.2.2.1 = 1 ∧ am_w (ws.getD 0 0) (.methodLink (am_own j) ix (am_y o.2.1)) = true) ∨ (o.2.2.2.1 = 11 ∧ am_wn (ws.getD 0 0) (.methodLinkNest (am_own j) ix (am_y o.2.1) "HornBench") = true) ∨ (o.2.2.2.1 = 21 ∧ am_wn (ws.getD 0 0) (.methodLinkNest (am_own j) ix (am_y o.2.1) "HornBenchModel") = true))) ∨
      (∃ ix, ins = .invokestatic ix ∧ (am_P.2.1 o.2.1).1 = 1 ∧ ((o.2.2.2.1 = 2 ∧ am_w (ws.getD 0 0) (.methodLink (am_own j) ix (am_y o.2.1)) = true) ∨ ((o.2.2.2.1 = 12 ∧ am_hh o.2.1 = []) ∧ am_wn (ws.getD 0 0) (.methodLinkNest (am_own j) ix (am_y o.2.1) "HornBench") = true))) := by
    split at hk
    · rename_i ix
      obtain ⟨q1, q2⟩ := Bool.and_eq_true_iff.mp hk
      exact Or.inl ⟨ix, by first | rfl | assumption, of_decide_eq_true q1, q2⟩
    · rename_i ix
      obtain ⟨q1, q2⟩ := Bool.and_eq_true_iff.mp hk
      refine Or.inr (Or.inl ⟨ix, by first | rfl | assumption, of_decide_eq_true q1, ?_⟩)
      rcases Bool.or_eq_true_iff.mp q2 with z | z
      · obtain ⟨z1, z2⟩ := Bool.and_eq_true_iff.mp z
        exact Or.inl ⟨of_decide_eq_true z1, z2⟩
      · rcases Bool.or_eq_true_iff.mp z with z | z
        · obtain ⟨z1, z2⟩ := Bool.and_eq_true_iff.mp z
          exact Or.inr (Or.inl ⟨of_decide_eq_true z1, z2⟩)
        · obtain ⟨z1, z2⟩ := Bool.and_eq_true_iff.mp z
          exact Or.inr (Or.inr ⟨of_decide_eq_true z1, z2⟩)
    · rename_i ix
      obtain ⟨q1, q2⟩ := Bool.and_eq_true_iff.mp hk
      refine Or.inr (Or.inr ⟨ix, by first | rfl | assumption, of_decide_eq_true q1, ?_⟩)
      rcases Bool.or_eq_true_iff.mp q2 with z | z
      · obtain ⟨z1, z2⟩ := Bool.and_eq_true_iff.mp z
        exact Or.inl ⟨of_decide_eq_true z1, z2⟩
      · obtain ⟨z1, z2⟩ := Bool.and_eq_true_iff.mp z
        exact Or.inr ⟨of_decide_eq_true z1, z2⟩
    · cases hk
  clear hk
  rcases HV with ⟨ix, hix, ⟨q1, q2, q3, q4⟩, q5⟩ | ⟨ix, hix, ⟨q1, q2, q3⟩, q4⟩ | ⟨ix, hix, q1, q2⟩
  · subst hix
    rcases o4 with z | ⟨k, As, rfl, e2⟩
    · exact absurd z q4
    obtain ⟨y1, y2, y3, y4, y5, y6⟩ := x9 q4
    have hsel : Cond.selects (am_own o.2.1) (am_y o.2.1) (am_y o.2.1) ∈ am_T := y6.resolve_left q3
    have hM := am_metX hlf ih hg kj q2 D B L xs ax ad hwas o3 hmc hms
    have hlen : ∀ sig, parseMethodDescriptor (am_y o.2.1).desc = some sig → (am_P.2.1 o.2.1).2.1 - 1 = sig.parameters.length := fun sig h9 => by
      rw [h9, am_beq_f q4] at x5
      exact (Option.some.inj x5).symm
    have cw : CallW R s args (am_own j) (am_own o.2.1) ix (am_y o.2.1) (am_b o.2.1) (am_ml o.2.1) (am_rt o.2.1) (am_wsC o.2.1) (am_rm d' mc ms) mc ms ((am_P.2.1 o.2.1).2.1 - 1) :=
      ⟨⟨rfl, rfl, hfr, hlo, am_pay (j9 := 0) hts (hwC q2), List.mem_cons_self, hts _ (x6 q2), hts _ x4, x2, hlen, hts _ (am_w_in q5)⟩, hts _ y1, hts _ hsel⟩
    have hp : PreV s H (am_own o.2.1) (ad k) (am_Pc D B L xs ax ad S (.ref k :: As)) (As.map (am_tr ad)) := ⟨am_Pc_blind, am_rcv hE hI (hwas _ List.mem_cons_self k rfl) e2 y3 y4 y5, fun U hU hWU => ⟨rfl, am_preU hE hI hU hWU⟩⟩
    have hrun := vx_runV hS9 hM cw hp (rest := rs.map (am_tr ad)) (g := F0 m pc lsA (st.map (am_tr ad))) (below := below) (meth := meth) (l := l) (e := e) (H := H) (locs := locs) rfl (by rw [List.length_map]; have : As.length + 1 = _ := o1; omega) hz (by show st.map (am_tr ad) = _; rw [hst]; simp [am_tr]) (by show 2 * 0 + _ ≤ 8; omega) hd hf
    exact am_callX hrun hI hmo hmc hms kk kx
  · subst hix
    obtain ⟨v, rfl⟩ : ∃ v, r1 = .inl v := hr1.resolve_right (fun z => by rcases q4 with ⟨z1, -⟩ | ⟨z1, -⟩ | ⟨z1, -⟩ <;> rw [z] at z1 <;> exact absurd z1 (by decide))
    have hkd : (am_P.2.1 o.2.1).1 ≠ 1 := fun z => by
      have := List.all_eq_true.mp am_inis o.2.1 (List.mem_range.mpr (by omega))
      rw [decide_eq_true q1, z] at this
      cases this
    rcases o4 with z | ⟨k, As, rfl, e2⟩
    · exact absurd z hkd
    obtain ⟨y1, y2, y3, y4, y5, y6⟩ := x9 hkd
    have hM := am_metI ih hg kj q3 D B L xs ax ad hwas o3 hmc hms
    have hlen : ∀ sig, parseMethodDescriptor (am_y o.2.1).desc = some sig → (am_P.2.1 o.2.1).2.1 - 1 = sig.parameters.length := fun sig h9 => by
      rw [h9, am_beq_f hkd] at x5
      exact (Option.some.inj x5).symm
    have hcN : Cond.code (am_y o.2.1) (am_b o.2.1) (am_ml o.2.1) none ∈ am_wsC o.2.1 := by rw [← q2]; exact List.mem_cons_self
    have hcT : Cond.code (am_y o.2.1) (am_b o.2.1) (am_ml o.2.1) none ∈ am_T := by rw [← q2]; exact x6 q3
    have hp : PreS s H (am_Pc D B L xs ax ad S (.ref k :: As)) (.ref (ad k) :: As.map (am_tr ad)) := ⟨am_Pc_blind, fun U hU hWU => ⟨rfl, am_preU hE hI hU hWU⟩⟩
    have hA : (As.map (am_tr ad)).length = (am_P.2.1 o.2.1).2.1 - 1 := by rw [List.length_map]; have : As.length + 1 = _ := o1; omega
    have hstk : st.map (am_tr ad) = (As.map (am_tr ad)).reverse ++ .ref (ad k) :: rs.map (am_tr ad) := by rw [hst]; simp [am_tr]
    rcases q4 with ⟨-, q5⟩ | ⟨-, q5⟩ | ⟨-, q5⟩
    · have hrun := va_runI hS9 hM ⟨⟨rfl, rfl, hfr, hlo, am_pay (j9 := 0) hts (hwC q3), hcN, hts _ hcT, hts _ x4, x2, hlen, hts _ (am_w_in q5)⟩, q1, hts _ y1⟩ hp (rest := rs.map (am_tr ad)) (g := F0 m pc lsA (st.map (am_tr ad))) (below := below) (meth := meth) (l := l) (e := e) (R := R) (locs := locs) rfl hA hz hstk (by show 2 * 0 + _ ≤ 8; omega) hd hf
      exact am_callM hrun hI hmo hmc hms (kk v rfl)
    · have hrun := va_runIN hS9 hM ⟨⟨⟨rfl, rfl, hfr, hlo, am_pay (j9 := 0) hts (hwC q3), hcN⟩, hts _ hcT, hts _ x4, x2, hlen, va_Nw.use rfl (hE.2.1 _ (am_wn_in q5))⟩, q1, hts _ y1⟩ hp (rest := rs.map (am_tr ad)) (g := F0 m pc lsA (st.map (am_tr ad))) (below := below) (meth := meth) (l := l) (e := e) (R := R) (locs := locs) rfl hA hz hstk (by show 2 * 0 + _ ≤ 8; omega) hd hf
      exact am_callM hrun hI hmo hmc hms (kk v rfl)
    · have hrun := va_runIN hS9 hM ⟨⟨⟨rfl, rfl, hfr, hlo, am_pay (j9 := 0) hts (hwC q3), hcN⟩, hts _ hcT, hts _ x4, x2, hlen, va_Nw.use rfl (hE.2.1 _ (am_wn_in q5))⟩, q1, hts _ y1⟩ hp (rest := rs.map (am_tr ad)) (g := F0 m pc lsA (st.map (am_tr ad))) (below := below) (meth := meth) (l := l) (e := e) (R := R) (locs := locs) rfl hA hz hstk (by show 2 * 0 + _ ≤ 8; omega) hd hf
      exact am_callM hrun hI hmo hmc hms (kk v rfl)
  · subst hix
    obtain ⟨v, rfl⟩ : ∃ v, r1 = .inl v := hr1.resolve_right (fun z => by rcases q2 with ⟨z1, -⟩ | ⟨⟨z1, -⟩, -⟩ <;> rw [z] at z1 <;> exact absurd z1 (by decide))
    have hlen : ∀ sig, parseMethodDescriptor (am_y o.2.1).desc = some sig → (am_P.2.1 o.2.1).2.1 = sig.parameters.length := fun sig h9 => by
      rw [h9, q1] at x5
      exact (Option.some.inj x5).symm
    have hp : PreS s H (am_Pc D B L xs ax ad S as) (as.map (am_tr ad)) := ⟨am_Pc_blind, fun U hU hWU => ⟨rfl, am_preU hE hI hU hWU⟩⟩
    have hA : (as.map (am_tr ad)).length = (am_P.2.1 o.2.1).2.1 := by rw [List.length_map]; exact o1
    have hstk : st.map (am_tr ad) = (as.map (am_tr ad)).reverse ++ rs.map (am_tr ad) := by rw [hst]; simp
    rcases q2 with ⟨-, q5⟩ | ⟨⟨-, q3⟩, q5⟩
    · by_cases q3 : am_hh o.2.1 = []
      · have hM := am_metI ih hg kj q3 D B L xs ax ad hwas o3 hmc hms
        have hrun := va_runS hS9 hM ⟨⟨rfl, rfl, hfr, hlo, am_pay (j9 := 0) hts (hwC q3), List.mem_cons_self, hts _ (x6 q3), hts _ x4, x2, hlen, hts _ (am_w_in q5)⟩, hts _ (x8 q1)⟩ hp (rest := rs.map (am_tr ad)) (g := F0 m pc lsA (st.map (am_tr ad))) (below := below) (meth := meth) (l := l) (e := e) (R := R) (locs := locs) rfl hA hz hstk (by show 2 * 0 + _ ≤ 8; omega) hd hf
        exact am_callM hrun hI hmo hmc hms (kk v rfl)
      · have hM := am_metH ih hg kj D B L xs ax ad hwas o3 hmc hms
        have hrun := vx_runSX (hh := am_hh o.2.1) hS9 hM ⟨⟨rfl, rfl, hfr, hlo, am_pay (j9 := 0) hts (hwH q3), List.mem_cons_self⟩, hts _ (x7 q3), hts _ x4, x2, hlen, hts _ (am_w_in q5), hts _ (x8 q1)⟩ hp (rest := rs.map (am_tr ad)) (g := F0 m pc lsA (st.map (am_tr ad))) (below := below) (meth := meth) (l := l) (e := e) (R := R) (locs := locs) rfl hA hz hstk (by show 2 * 0 + _ ≤ 8; omega) hd hf
        exact am_callX hrun hI hmo hmc hms kk kx
    · have hM := am_metI ih hg kj q3 D B L xs ax ad hwas o3 hmc hms
      have hrun := va_runSN hS9 hM ⟨⟨⟨rfl, rfl, hfr, hlo, am_pay (j9 := 0) hts (hwC q3), List.mem_cons_self⟩, hts _ (x6 q3), hts _ x4, x2, hlen, va_Nw.use rfl (hE.2.1 _ (am_wn_in q5))⟩, hts _ (x8 q1), trivial⟩ hp (rest := rs.map (am_tr ad)) (g := F0 m pc lsA (st.map (am_tr ad))) (below := below) (meth := meth) (l := l) (e := e) (R := R) (locs := locs) rfl hA hz hstk (by show 2 * 0 + _ ≤ 8; omega) hd hf
      exact am_callM hrun hI hmo hmc hms (kk v rfl)
end AmCal
theorem am_lt_eq {ad ad2 : Nat → Nat} {t : Nat} {ls : AmL} (h1 : ∀ k, k < t → ad2 k = ad k) (h2 : ∀ k, am_EXT ≤ k → ad2 k = ad k) (hv : ∀ q ∈ ls, am_wf t q.2) : am_lt ad2 ls = am_lt ad ls := by
  unfold am_lt
  exact List.map_congr_left fun z hz => by rw [am_tr_eq h1 h2 (hv z hz)]
theorem am_st_eq {ad ad2 : Nat → Nat} {t : Nat} {st : List Value} (h1 : ∀ k, k < t → ad2 k = ad k) (h2 : ∀ k, am_EXT ≤ k → ad2 k = ad k) (hv : ∀ v ∈ st, am_wf t v) : st.map (am_tr ad2) = st.map (am_tr ad) := List.map_congr_left fun z hz => am_tr_eq h1 h2 (hv z hz)
theorem am_thrown : ∀ {f d j n : Nat} {ls : AmL} {st : List Value} {S S' : AmS} {E a : Nat}, am_go f d j n ls st S = some (.inr (E, a), S') → False := by
  intro f
  induction f with
  | zero => intro d j n ls st S S' E a h; cases h
  | succ f ih =>
    intro d j n ls st S S' E a h
    unfold am_go at h
    split at h
    · cases h
    · rename_i o ho
      cases h40 : Nat.beq o.1 40 with
      | true =>
        rw [h40] at h
        simp only [cond_true] at h
        cases d with
        | zero => cases h
        | succ d' =>
          obtain ⟨-, h⟩ := am_cnd h
          split at h
          · cases h
          · exact ih h
          · exact ih h
          · obtain ⟨-, h⟩ := am_cnd h
            split at h
            · exact ih h
            · cases h
      | false =>
        rw [h40] at h
        simp only [cond_false] at h
        cases h41 : (Nat.beq o.1 41 || Nat.beq o.1 42) with
        | true =>
          rw [h41] at h
          simp only [cond_true] at h
          unfold am_fin at h
          cases h1 : Nat.beq o.1 41 with
          | true =>
            rw [h1] at h
            simp only [cond_true] at h
            unfold am_ends at h
            split at h
            · obtain ⟨-, h2⟩ := am_cnd h; cases h2
            · obtain ⟨-, h2⟩ := am_cnd h; cases h2
            · cases h
          | false =>
            rw [h1] at h
            simp only [cond_false] at h
            obtain ⟨-, h2⟩ := am_cnd h
            unfold am_thr at h2
            cases h2
        | false =>
          rw [h41] at h
          simp only [cond_false] at h
          split at h
          · exact ih h
          · cases h
set_option maxHeartbeats 4000000 in
theorem am_sim (l : Launch) (hlf : l.stackTraces = false) : ∀ f, am_Sim l f := by
  intro f
  induction f with
  | zero => intro d j n ls st S r S' h; cases h
  | succ f ih =>
    intro d j n ls st S r S' h hj p e R s m args below meth c Q D B L xs ax ad0 t0 c0 s0 ad H locs cells slots lsA hF hE hI hW hl hRf hRl hRc hRs hend
    unfold am_go at h
    split at h
    · cases h
    · rename_i o ho
      cases h40 : Nat.beq o.1 40 with
      | true =>
        rw [h40] at h
        simp only [cond_true] at h
        cases d with
        | zero => cases h
        | succ d' =>
          obtain ⟨hok, h⟩ := am_cnd h
          have hst : st = (st.take o.2.2.1).reverse.reverse ++ st.drop o.2.2.1 := by rw [List.reverse_reverse, List.take_append_drop]
          have hwr : ∀ v ∈ st.drop o.2.2.1, am_wf S.2.2.1 v := fun v hv => hW.1 v (List.mem_of_mem_drop hv)
          have hext : ∀ {ad' : Nat → Nat} {S1 : AmS} {H' : Heap} {locs' : List Loc} {cells' slots' : Nat}, am_I D B L xs ax s ad0 t0 c0 s0 ad' S1 H' locs' cells' slots' → ∀ k, am_EXT ≤ k → ad' k = ad k := fun hI' k hk => ((hI'.1.2.2.1 k hk).1).trans ((hI.1.2.2.1 k hk).1).symm
          split at h
          · cases h
          · rename_i S1 hg
            have m1 := am_go_mo _ _ _ _ _ _ _ _ _ hg
            have m2 := am_go_mo _ _ _ _ _ _ _ _ _ h
            refine am_cal hlf ih hF hj ho h40 hE hI hW.1 hl.1 hRf hRl hst hok hg (Nat.le_trans m2.2.1 hRc) (Nat.le_trans m2.2.2 hRs) (Or.inl ⟨_, rfl⟩) (fun v hv hnr ad' H' locs' cells' slots' hI' had => ?_) (fun E a hv => by cases hv)
            cases hv
            have K := ih (d' + 1) j (n + 1) ls (st.drop o.2.2.1) S1 r S' h hj p e R s m args below meth c Q D B L xs ax ad0 t0 c0 s0 ad' H' locs' cells' slots' lsA hF hE hI' ⟨fun v hv => (hwr v hv).mono m1.1, fun q hq => (hW.2 q hq).mono m1.1⟩ (by rw [am_lt_eq had (hext hI') hW.2]; exact hl) hRf hRl hRc hRs hend
            rw [am_st_eq had (hext hI') hwr] at K
            exact K
          · rename_i v0 S1 hg
            have m1 := am_go_mo _ _ _ _ _ _ _ _ _ hg
            have m2 := am_go_mo _ _ _ _ _ _ _ _ _ h
            refine am_cal hlf ih hF hj ho h40 hE hI hW.1 hl.1 hRf hRl hst hok hg (Nat.le_trans m2.2.1 hRc) (Nat.le_trans m2.2.2 hRs) (Or.inl ⟨_, rfl⟩) (fun v hv hnr ad' H' locs' cells' slots' hI' had => ?_) (fun E a hv => by cases hv)
            cases hv
            have hn0 := hnr v0 rfl
            have K := ih (d' + 1) j (n + 1) ls (v0 :: st.drop o.2.2.1) S1 r S' h hj p e R s m args below meth c Q D B L xs ax ad0 t0 c0 s0 ad' H' locs' cells' slots' lsA hF hE hI' ⟨am_wc (am_nr_wf hn0) (fun v hv => (hwr v hv).mono m1.1), fun q hq => (hW.2 q hq).mono m1.1⟩ (by rw [am_lt_eq had (hext hI') hW.2]; exact hl) hRf hRl hRc hRs hend
            rw [List.map_cons, hn0, am_st_eq had (hext hI') hwr] at K
            exact K
          · rename_i E0 a0 S1 hg
            exact (am_thrown hg).elim
      | false =>
        rw [h40] at h
        simp only [cond_false] at h
        cases h41 : (Nat.beq o.1 41 || Nat.beq o.1 42) with
        | true =>
          rw [h41] at h
          exact hend n o st S ad H locs cells slots lsA ho h hI hl.1
        | false =>
          rw [h41] at h
          simp only [cond_false] at h
          split at h
          · rename_i n' ls' st' S1 hn
            have w1 := am_nxt_w hn
            have m2 := am_go_mo _ _ _ _ _ _ _ _ _ h
            exact am_stp hF hj ho hE hI hW hl (by omega) (by omega) (Nat.le_trans m2.2.1 hRc) (Nat.le_trans m2.2.2 hRs) w1.1 hn (fun ad' H' locs' cells' slots' lsB hI' hl' => ih d j n' ls' st' S1 r S' h hj p e R s m args below meth c Q D B L xs ax ad0 t0 c0 s0 ad' H' locs' cells' slots' lsB hF hE hI' (w1.2 hI.1.cn hW) hl' hRf hRl hRc hRs hend)
          · cases h
