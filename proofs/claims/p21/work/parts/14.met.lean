/-! THE CONTRACTS of all methods, out of a run of the small machine; and the runs of the machine itself. -/
def am_Sim (l : Launch) (f : Nat) : Prop := ∀ (d j n : Nat) (ls : AmL) (st : List Value) (S : AmS) (r : AmO) (S' : AmS), am_go f d j n ls st S = some (r, S') → j < 164 →
  ∀ (p : Program) (e : Env) (R : Room) (s : State) (m : MethodId) (args : Array Value) (below : List Frame) (meth : Method) (c : Code) (Q : State → Prop) (D : va_G) (B L : Nat) (xs : Nat → Int32) (ax ad0 : Nat → Nat) (t0 c0 s0 : Nat) (ad : Nat → Nat) (H : Heap) (locs : List Loc) (cells slots : Nat) (lsA : Array Slot),
  am_Fr p s m args meth c j → am_E D B L xs ax s s.heap → am_I D B L xs ax s ad0 t0 c0 s0 ad S H locs cells slots → am_Wf S ls st → lv_has lsA (am_ml j) (am_lt ad ls) →
  10 + d ≤ R.frames → 200 + 60 * d ≤ R.locals → S'.2.2.2.1 ≤ c0 + R.cells → S'.2.2.2.2 ≤ s0 + R.slots →
  (∀ (n9 : Nat) (o9 : AmIns) (st9 : List Value) (S9 : AmS) (ad9 : Nat → Nat) (H9 : Heap) (locs9 : List Loc) (cells9 slots9 : Nat) (lsB : Array Slot), (am_P.1 j)[n9]? = some o9 → am_fin o9 st9 S9 = some (r, S') → am_I D B L xs ax s ad0 t0 c0 s0 ad9 S9 H9 locs9 cells9 slots9 → lsB.size = am_ml j → W p l e R s m args below meth c H9 locs9 cells9 slots9 Q (F0 m (am_pc j n9) lsB (st9.map (am_tr ad9)))) →
  W p l e R s m args below meth c H locs cells slots Q (F0 m (am_pc j n) lsA (st.map (am_tr ad)))
theorem am_mkx {j : Nat} (hj : j < 163) : plainName (am_own j) = true ∧ (am_own j ≠ "java/lang/invoke/MethodHandle" ∧ am_own j ≠ "java/lang/invoke/VarHandle") ∧ am_ml j ≤ 41 ∧ Cond.initialized (am_own j) ∈ am_T ∧ (parseMethodDescriptor (am_y j).desc).map (fun d => d.parameters.length) = some ((am_P.2.1 j).2.1 - cond (Nat.beq (am_P.2.1 j).1 1) 0 1) ∧
    (am_hh j = [] → Cond.code (am_y j) (am_b j) (am_ml j) (am_rt j) ∈ am_T) ∧ (am_hh j ≠ [] → Cond.codeWith (am_y j) (am_b j) (am_ml j) (am_rt j) (am_hh j) ∈ am_T) ∧ ((am_P.2.1 j).1 = 1 → Cond.static (am_y j) ∈ am_T) ∧
    ((am_P.2.1 j).1 ≠ 1 → Cond.instanceMethod (am_y j) ∈ am_T ∧ 0 < (am_P.2.1 j).2.1 ∧ am_own j = cond (Nat.beq (am_P.2.1 j).1 78) "java/lang/String" (am_RX ((am_P.2.1 j).1 - 2)) ∧ 1 < (am_P.2.1 j).1 ∧ ((am_P.2.1 j).1 < 13 ∨ (am_P.2.1 j).1 = 78) ∧ ((am_y j).name = "<init>" ∨ Cond.selects (am_own j) (am_y j) (am_y j) ∈ am_T)) := by
  have h := (Bool.and_eq_true_iff.mp (am_ck j (by omega))).1
  unfold am_mk at h
  have hb : Nat.beq j 163 = false := am_beq_f (by omega)
  rw [hb] at h
  simp only [cond_false] at h
  obtain ⟨a1, h⟩ := Bool.and_eq_true_iff.mp h
  obtain ⟨a2, h⟩ := Bool.and_eq_true_iff.mp h
  obtain ⟨a3, h⟩ := Bool.and_eq_true_iff.mp h
  obtain ⟨a4, h⟩ := Bool.and_eq_true_iff.mp h
  obtain ⟨a5, h⟩ := Bool.and_eq_true_iff.mp h
  obtain ⟨a6, a7⟩ := Bool.and_eq_true_iff.mp h
  refine ⟨a1, of_decide_eq_true a2, Nat.le_of_ble_eq_true a3, am_w_in a4, of_decide_eq_true a5, fun z => ?_, fun z => ?_, fun z => ?_, fun z => ?_⟩
  · have e : (am_hh j).isEmpty = true := by rw [z]; rfl
    rw [e] at a6
    exact am_w_in a6
  · have e : (am_hh j).isEmpty = false := by
      cases e : am_hh j with
      | nil => exact absurd e z
      | cons a b => rfl
    rw [e] at a6
    exact am_w_in a6
  · have e : Nat.beq (am_P.2.1 j).1 1 = true := by rw [z]; rfl
    rw [e] at a7
    exact am_w_in a7
  · rw [am_beq_f z] at a7
    simp only [cond_false] at a7
    obtain ⟨b1, a7⟩ := Bool.and_eq_true_iff.mp a7
    obtain ⟨b2, a7⟩ := Bool.and_eq_true_iff.mp a7
    obtain ⟨b3, a7⟩ := Bool.and_eq_true_iff.mp a7
    obtain ⟨b4, a7⟩ := Bool.and_eq_true_iff.mp a7
    obtain ⟨b5, b6⟩ := Bool.and_eq_true_iff.mp a7
    exact ⟨am_w_in b1, am_blt b2, of_decide_eq_true b3, am_blt b4, (Bool.or_eq_true_iff.mp b5).imp am_blt am_beq, (Bool.or_eq_true_iff.mp b6).imp of_decide_eq_true am_w_in⟩
theorem am_ends_S {o : AmIns} {st : List Value} {S S' : AmS} {r : AmO} (h : am_ends o st S = some (r, S')) : S' = S := by
  unfold am_ends at h
  split at h
  · obtain ⟨-, h2⟩ := am_cnd h; cases h2; rfl
  · obtain ⟨-, h2⟩ := am_cnd h; cases h2; rfl
  · cases h
theorem am_thr_no {o : AmIns} {st : List Value} {S S' : AmS} {v : AmO} (h : cond (Nat.beq o.1 42) (am_thr o st S) none = some (v, S')) : False := by
  obtain ⟨-, h2⟩ := am_cnd h
  unfold am_thr at h2
  cases h2
section AmBody
variable {l : Launch} {f d j : Nat} {as : List Value} {S S' : AmS} {r : AmO}
theorem am_body (hS : am_Sim l f) (h : am_go f d j 0 (lv_args 0 as) [] S = some (r, S')) (hj : j < 164)
    {p : Program} {e : Env} {R : Room} {s : State} {m : MethodId} {args : Array Value} {below : List Frame} {meth : Method} {c : Code} {Q : State → Prop} {D : va_G} {B L : Nat} {xs : Nat → Int32} {ax ad : Nat → Nat}
    (hF : am_Fr p s m args meth c j) (hE : am_E D B L xs ax s s.heap) (hR : am_Rp D B L xs ax s ad S s.heap) (hw : ∀ x ∈ as, am_wf S.2.2.1 x) (hct : (as.map fun v => v.category).sum ≤ am_ml j)
    (hRf : 10 + d ≤ R.frames) (hRl : 200 + 60 * d ≤ R.locals) (hRc : S'.2.2.2.1 ≤ S.2.2.2.1 + R.cells) (hRs : S'.2.2.2.2 ≤ S.2.2.2.2 + R.slots)
    (hend : ∀ (n9 : Nat) (o9 : AmIns) (st9 : List Value) (S9 : AmS) (ad9 : Nat → Nat) (H9 : Heap) (locs9 : List Loc) (cells9 slots9 : Nat) (lsB : Array Slot), (am_P.1 j)[n9]? = some o9 → am_fin o9 st9 S9 = some (r, S') → am_I D B L xs ax s ad S.2.2.1 S.2.2.2.1 S.2.2.2.2 ad9 S9 H9 locs9 cells9 slots9 → lsB.size = am_ml j → W p l e R s m args below meth c H9 locs9 cells9 slots9 Q (F0 m (am_pc j n9) lsB (st9.map (am_tr ad9)))) :
    W p l e R s m args below meth c s.heap [] 0 0 Q (entryFrame m (as.map (am_tr ad)).toArray (am_ml j)) := by
  have hl := lv_entry (as.map (am_tr ad)) (n := am_ml j) (by rw [am_sl_len, am_tr_sum]; exact hct)
  rw [lg_entry_eq]
  generalize (lg_sl (as.map (am_tr ad)) ++ List.replicate (am_ml j - (lg_sl (as.map (am_tr ad))).length) Slot.unset).toArray = lsA at hl ⊢
  rw [am_lt_args] at hl
  have K := hS d j 0 (lv_args 0 as) [] S r S' h hj p e R s m args below meth c Q D B L xs ax ad S.2.2.1 S.2.2.2.1 S.2.2.2.2 ad s.heap [] 0 0 lsA hF hE ⟨hR, va_S.rf, Nat.le_refl _, fun _ _ => rfl, Nat.zero_add _, Nat.zero_add _⟩ ⟨fun v hv => (nomatch hv), am_args_wf hw⟩ hl hRf hRl hRc hRs hend
  rw [am_pc0 hj] at K
  exact K
theorem am_hk41 {n : Nat} {o : AmIns} (hk : am_ko j n o (am_e j n) = true) (h : Nat.beq o.1 41 = true) : am_k41 j o (am_e j n) = true := by
  unfold am_ko at hk
  rw [am_beq h] at hk
  exact hk
theorem am_hk42 {n : Nat} {o : AmIns} (hk : am_ko j n o (am_e j n) = true) (h : Nat.beq o.1 42 = true) : am_k42 j o (am_e j n) = true := by
  unfold am_ko at hk
  rw [am_beq h] at hk
  exact hk
theorem am_hk40 {n : Nat} {o : AmIns} (hk : am_ko j n o (am_e j n) = true) (h : Nat.beq o.1 40 = true) : am_k40 j n o (am_e j n) = true := by
  unfold am_ko at hk
  rw [am_beq h] at hk
  exact hk
theorem am_metI {v : Option Value} (hS : am_Sim l f) (h : am_go f d j 0 (lv_args 0 as) [] S = some (.inl v, S')) (hj : j < 163) (hhh : am_hh j = []) (D : va_G) (B L : Nat) (xs : Nat → Int32) (ax ad : Nat → Nat) (hw : ∀ x ∈ as, am_wf S.2.2.1 x) (hct : (as.map fun v => v.category).sum ≤ am_ml j) {mc ms : Nat} (hmc : mc + S.2.2.2.1 = S'.2.2.2.1) (hms : ms + S.2.2.2.2 = S'.2.2.2.2) :
    Met l (am_y j) (am_wsC j) (am_rm d mc ms) (am_Pc D B L xs ax ad S as) (am_Qc D B L xs ax ad S.2.2.1 (.inl v) S') mc ms (am_A B) := by
  obtain ⟨x1, -⟩ := am_mkx hj
  refine Met.ofW (cc := am_b j) (maxL := am_ml j) (ret := am_rt j) x1 rfl ?_
  intro p e s m args below meth c s₁ Bd hml hv
  obtain ⟨rfl, hE, hR⟩ := hv
  have hts := atoms_spec (ws := am_wsC j) Bd.pre
  refine am_body hS h (by omega) ⟨Bd.exec, Bd.bytes, findClass_of_methodNamed Bd.named, hml, fun w hw9 => hts w (List.mem_cons_of_mem _ hw9), Or.inl (name_of_methodNamed Bd.named Bd.method).1, Or.inl hhh⟩ hE hR hw hct (show 10 + d ≤ 10 + d from Nat.le_refl _) (show 200 + 60 * d ≤ 200 + 60 * d from Nat.le_refl _) (show _ ≤ _ + mc by omega) (show _ ≤ _ + ms by omega) ?_
  intro n9 o9 st9 S9 ad9 H9 locs9 cells9 slots9 lsB ho hfin hI hz
  obtain ⟨hd, hk⟩ := am_kk_at (by omega) ho
  unfold am_fin at hfin
  cases h41 : Nat.beq o9.1 41 with
  | true =>
    rw [h41] at hfin
    have hS9 := am_ends_S hfin
    have c1 := hI.2.2.2.2.1
    have c2 := hI.2.2.2.2.2
    rw [hS9] at hmc hms
    exact am_p41 Bd.exec Bd.bytes Bd.returns Bd.notSynchronized hd (am_hk41 hk h41) hfin (by omega) (by omega) (fun v' hv' hnr hS' t ht hW => ⟨⟨v', hv', rfl, hnr⟩, ⟨ad9, hI.2.2.2.1, by rw [ht, hS']; exact hI.1.moved hW.alike⟩, hI.2.1.F ht⟩) hI.2.1.2.2
  | false =>
    rw [h41] at hfin
    exact (am_thr_no hfin).elim
theorem am_metX (hlf : l.stackTraces = false) (hS : am_Sim l f) (h : am_go f d j 0 (lv_args 0 as) [] S = some (r, S')) (hj : j < 163) (hhh : am_hh j = []) (D : va_G) (B L : Nat) (xs : Nat → Int32) (ax ad : Nat → Nat) (hw : ∀ x ∈ as, am_wf S.2.2.1 x) (hct : (as.map fun v => v.category).sum ≤ am_ml j) {mc ms : Nat} (hmc : mc + S.2.2.2.1 = S'.2.2.2.1) (hms : ms + S.2.2.2.2 = S'.2.2.2.2) :
    vx_Met l (am_y j) (am_wsC j) (am_rm d mc ms) (am_Pc D B L xs ax ad S as) (am_Qc D B L xs ax ad S.2.2.1 r S') (am_XC D B L xs ax ad S.2.2.1 r S') mc ms (am_A B) := by
  obtain ⟨x1, -⟩ := am_mkx hj
  refine vx_ofW (cc := am_b j) (maxL := am_ml j) (ret := am_rt j) x1 rfl ?_
  intro p e s m args below meth c s₁ Bd hml htab hv
  obtain ⟨rfl, hE, hR⟩ := hv
  have hts := atoms_spec (ws := am_wsC j) Bd.pre
  have hts2 : ∀ w ∈ am_T, w.before (as.map (am_tr ad)).toArray s = true := fun w hw9 => hts w (List.mem_cons_of_mem _ hw9)
  refine am_body hS h (by omega) ⟨Bd.exec, Bd.bytes, findClass_of_methodNamed Bd.named, hml, hts2, Or.inl (name_of_methodNamed Bd.named Bd.method).1, Or.inl hhh⟩ hE hR hw hct (show 10 + d ≤ 10 + d from Nat.le_refl _) (show 200 + 60 * d ≤ 200 + 60 * d from Nat.le_refl _) (show _ ≤ _ + mc by omega) (show _ ≤ _ + ms by omega) ?_
  intro n9 o9 st9 S9 ad9 H9 locs9 cells9 slots9 lsB ho hfin hI hz
  obtain ⟨hd, hk⟩ := am_kk_at (by omega) ho
  unfold am_fin at hfin
  cases h41 : Nat.beq o9.1 41 with
  | true =>
    rw [h41] at hfin
    have hS9 := am_ends_S hfin
    have c1 := hI.2.2.2.2.1
    have c2 := hI.2.2.2.2.2
    have m1 : cells9 = mc := by rw [hS9] at hmc; omega
    have m2 : slots9 = ms := by rw [hS9] at hms; omega
    exact vx_ret (am_p41 Bd.exec Bd.bytes Bd.returns Bd.notSynchronized hd (am_hk41 hk h41) hfin m1 m2 (fun v' hv' hnr hS' t ht hW => ⟨⟨v', hv', rfl, hnr⟩, ⟨ad9, hI.2.2.2.1, by rw [ht, hS']; exact hI.1.moved hW.alike⟩, hI.2.1.F ht⟩) hI.2.1.2.2)
  | false =>
    rw [h41] at hfin
    exact (am_thr_no hfin).elim
theorem am_metH {v : Option Value} (hS : am_Sim l f) (h : am_go f d j 0 (lv_args 0 as) [] S = some (.inl v, S')) (hj : j < 163) (D : va_G) (B L : Nat) (xs : Nat → Int32) (ax ad : Nat → Nat) (hw : ∀ x ∈ as, am_wf S.2.2.1 x) (hct : (as.map fun v => v.category).sum ≤ am_ml j) {mc ms : Nat} (hmc : mc + S.2.2.2.1 = S'.2.2.2.1) (hms : ms + S.2.2.2.2 = S'.2.2.2.2) :
    vx_Met l (am_y j) (am_wsH j) (am_rm d mc ms) (am_Pc D B L xs ax ad S as) (am_Qc D B L xs ax ad S.2.2.1 (.inl v) S') (am_XC D B L xs ax ad S.2.2.1 (.inl v) S') mc ms (am_A B) := by
  obtain ⟨x1, -⟩ := am_mkx hj
  refine vx_ofWH (cc := am_b j) (maxL := am_ml j) (ret := am_rt j) (hh := am_hh j) x1 rfl ?_
  intro p e s m args below meth c s₁ Bd hml hv
  obtain ⟨rfl, hE, hR⟩ := hv
  have hts := atoms_spec (ws := am_wsH j) Bd.pre
  refine am_body hS h (by omega) ⟨Bd.exec, Bd.bytes, findClass_of_methodNamed Bd.named, hml, fun w hw9 => hts w (List.mem_cons_of_mem _ hw9), Or.inl (name_of_methodNamed Bd.named Bd.method).1, Or.inr (vx_table (x := am_y j) Bd (hts _ List.mem_cons_self))⟩ hE hR hw hct (show 10 + d ≤ 10 + d from Nat.le_refl _) (show 200 + 60 * d ≤ 200 + 60 * d from Nat.le_refl _) (show _ ≤ _ + mc by omega) (show _ ≤ _ + ms by omega) ?_
  intro n9 o9 st9 S9 ad9 H9 locs9 cells9 slots9 lsB ho hfin hI hz
  obtain ⟨hd, hk⟩ := am_kk_at (by omega) ho
  unfold am_fin at hfin
  cases h41 : Nat.beq o9.1 41 with
  | true =>
    rw [h41] at hfin
    have hS9 := am_ends_S hfin
    have c1 := hI.2.2.2.2.1
    have c2 := hI.2.2.2.2.2
    have m1 : cells9 = mc := by rw [hS9] at hmc; omega
    have m2 : slots9 = ms := by rw [hS9] at hms; omega
    exact vx_ret (am_p41 Bd.exec Bd.bytes Bd.returns Bd.notSynchronized hd (am_hk41 hk h41) hfin m1 m2 (fun v' hv' hnr hS' t ht hW => ⟨⟨v', hv', rfl, hnr⟩, ⟨ad9, hI.2.2.2.1, by rw [ht, hS']; exact hI.1.moved hW.alike⟩, hI.2.1.F ht⟩) hI.2.1.2.2)
  | false =>
    rw [h41] at hfin
    exact (am_thr_no hfin).elim
end AmBody
section AmCall
variable {p : Program} {l : Launch} {e : Env} {R : Room} {s : State} {m : MethodId} {args a9 : Array Value} {below : List Frame} {meth : Method} {c : Code} {H : Heap} {locs : List Loc} {cells slots pc mc ms : Nat} {Q : State → Prop} {st0 rest : List Value}
variable {j n : Nat} {o : AmIns} {ls : AmL} {st : List Value} {S S1 : AmS} {lsA : Array Slot} {ad ad0 ax : Nat → Nat} {B L t0 c0 s0 : Nat} {xs : Nat → Int32} {D : va_G} {r1 : AmO}
theorem am_callM {v : Option Value} (hr : va_Run p l e R s m args below meth c H locs cells slots mc ms (F0 m pc lsA st0) rest (am_Qc D B L xs ax ad S.2.2.1 (.inl v) S1 a9) (am_A B)) (hI : am_I D B L xs ax s ad0 t0 c0 s0 ad S H locs cells slots) (hmo : am_Mo S S1) (hmc : mc + S.2.2.2.1 = S1.2.2.2.1) (hms : ms + S.2.2.2.2 = S1.2.2.2.2)
    (kk : (∀ w, v = some w → ∀ a : Nat → Nat, am_tr a w = w) → ∀ (ad' : Nat → Nat) (H' : Heap) (locs' : List Loc) (cells' slots' : Nat), am_I D B L xs ax s ad0 t0 c0 s0 ad' S1 H' locs' cells' slots' → (∀ k, k < S.2.2.1 → ad' k = ad k) → W p l e R s m args below meth c H' locs' cells' slots' Q (F0 m (pc + 3) lsA (v.toList ++ rest))) :
    W p l e R s m args below meth c H locs cells slots Q (F0 m pc lsA st0) := by
  obtain ⟨hR, hS, hT0, hA0, hC, hSl⟩ := hI
  intro T hT X
  obtain ⟨v', st₀, t, T', L9, h0, X', hL, e1, e2, ⟨⟨v9, hv1, hv2, hnr⟩, ⟨u, hu, hRp⟩, hF⟩, stp⟩ := hr T hT X
  cases hv1
  cases hv2
  have hvm : s.vm.Alike t.vm := by rw [← e2]; exact X'.warmed.alike
  obtain ⟨-, -, k3⟩ := vx_keep (A1 := am_A B) (A0 := am_A B) h0 e1 hS (fun _ _ z => z) (fun _ z => z) hL hF
  obtain ⟨t2, a1, b1⟩ := kk hnr u T'.heap (locs ++ L9) (cells + mc) (slots + ms) ⟨by rw [e1]; exact hRp.moved hvm.symm, k3, Nat.le_trans hT0 hmo.1, fun k hk => (hu k (Nat.lt_of_lt_of_le hk hT0)).trans (hA0 k hk), by omega, by omega⟩ hu T' rfl X'
  exact ⟨t2, stp t2 a1, b1⟩
theorem am_callX (hr : vx_Run p l e R s m args below meth c H locs cells slots mc ms (F0 m pc lsA st0) rest (am_Qc D B L xs ax ad S.2.2.1 r1 S1 a9) (am_XC D B L xs ax ad S.2.2.1 r1 S1) (am_A B)) (hI : am_I D B L xs ax s ad0 t0 c0 s0 ad S H locs cells slots) (hmo : am_Mo S S1) (hmc : mc + S.2.2.2.1 = S1.2.2.2.1) (hms : ms + S.2.2.2.2 = S1.2.2.2.2)
    (kk : ∀ v, r1 = .inl v → (∀ w, v = some w → ∀ a : Nat → Nat, am_tr a w = w) → ∀ (ad' : Nat → Nat) (H' : Heap) (locs' : List Loc) (cells' slots' : Nat), am_I D B L xs ax s ad0 t0 c0 s0 ad' S1 H' locs' cells' slots' → (∀ k, k < S.2.2.1 → ad' k = ad k) → W p l e R s m args below meth c H' locs' cells' slots' Q (F0 m (pc + 3) lsA (v.toList ++ rest)))
    (kx : ∀ E a, r1 = .inr (E, a) → E < 3 → ∀ (ad' : Nat → Nat) (H' : Heap) (locs' : List Loc) (cells' slots' : Nat) (ce : Cell), am_I D B L xs ax s ad0 t0 c0 s0 ad' S1 H' locs' cells' slots' → (∀ k, k < S.2.2.1 → ad' k = ad k) → H'[ad' a]? = some ce → ce.vm = .none → s.vm.findClass (am_tX E) = some ce.cls → vx_W p l e R s m args below meth c H' locs' cells' slots' Q (F0 m pc lsA rest) (ad' a)) :
    W p l e R s m args below meth c H locs cells slots Q (F0 m pc lsA st0) := by
  obtain ⟨hR, hS, hT0, hA0, hC, hSl⟩ := hI
  intro T hT X
  rcases hr T hT X with ⟨v', st₀, t, T', L9, h0, X', hL, e1, e2, ⟨⟨v9, hv1, hv2, hnr⟩, ⟨u, hu, hRp⟩, hF⟩, stp⟩ | ⟨q9, st₀, t, T', L9, E, ce, h0, X', hL, e1, e2, ⟨⟨q, hq1, hq2, hq3, u, S2, hu, hu2, hRp, hq4, hq5, hq6⟩, hF⟩, hce, hcv, hcl, stp⟩
  · cases hv2
    have hvm : s.vm.Alike t.vm := by rw [← e2]; exact X'.warmed.alike
    obtain ⟨-, -, k3⟩ := vx_keep (A1 := am_A B) (A0 := am_A B) h0 e1 hS (fun _ _ z => z) (fun _ z => z) hL hF
    obtain ⟨t2, a1, b1⟩ := kk _ hv1 hnr u T'.heap (locs ++ L9) (cells + mc) (slots + ms) ⟨by rw [e1]; exact hRp.moved hvm.symm, k3, Nat.le_trans hT0 hmo.1, fun k hk => (hu k (Nat.lt_of_lt_of_le hk hT0)).trans (hA0 k hk), by omega, by omega⟩ hu T' rfl X'
    exact ⟨t2, stp t2 a1, b1⟩
  · obtain ⟨E9, a⟩ := q
    have hvm : s.vm.Alike t.vm := by rw [← e2]; exact X'.warmed.alike
    obtain ⟨-, -, k3⟩ := vx_keep (A1 := am_A B) (A0 := am_A B) h0 e1 hS (fun _ _ z => z) (fun _ z => z) hL hF
    have hRp2 : am_Rp D B L xs ax s u S2 T'.heap := by rw [e1]; exact hRp.moved hvm.symm
    have hRn := hRp2.new hq6 (q := q9) (i := (0, 0)) (d := fun _ => .null) (S2.2.2.2.1 + 1) (S2.2.2.2.2 + 6) (Nat.zero_le _) (fun _ => am_wf_n) (Nat.le_refl _) (fun _ _ => rfl) (fun z => absurd rfl z)
    have hun : ∀ k, k < S.2.2.1 → am_up u S2.2.2.1 q9 k = ad k := fun k hk => by rw [am_up_n u q9 (by omega)]; exact hu k hk
    have hada : am_up u S2.2.2.1 q9 a = q9 := by rw [show a = S2.2.2.1 from hq4]; exact am_up_s _ _ _
    have K := kx E9 a hq1 hq3 (am_up u S2.2.2.1 q9) T'.heap (locs ++ L9) (cells + mc) (slots + ms) ce ⟨by rw [hq5]; exact hRn, k3, Nat.le_trans hT0 hmo.1, fun k hk => (hun k (Nat.lt_of_lt_of_le hk hT0)).trans (hA0 k hk), by omega, by omega⟩ hun (by rw [hada, e1]; exact hce) hcv (by rw [← hq2]; exact hcl)
    rw [hada] at K
    obtain ⟨t2, a1, b1⟩ := K T' rfl X'
    exact ⟨t2, stp.trans a1, b1⟩
theorem am_okx {jj : Nat} {as rs : List Value} (h : am_okc jj as rs S = true) : as.length = (am_P.2.1 jj).2.1 ∧ (rs.map fun v => v.category).sum ≤ 8 ∧ (as.map fun v => v.category).sum ≤ am_ml jj ∧ ((am_P.2.1 jj).1 = 1 ∨ ∃ k As, as = .ref k :: As ∧ (S.1 k).1 + 1 = (am_P.2.1 jj).1) := by
  obtain ⟨h1, h2⟩ := Bool.and_eq_true_iff.mp h
  obtain ⟨h3, h1⟩ := Bool.and_eq_true_iff.mp h1
  obtain ⟨h4, h5⟩ := Bool.and_eq_true_iff.mp h1
  refine ⟨am_beq h3, Nat.le_of_ble_eq_true h4, Nat.le_of_ble_eq_true h2, ?_⟩
  cases hk : Nat.beq (am_P.2.1 jj).1 1 with
  | true => exact Or.inl (am_beq hk)
  | false =>
    rw [hk] at h5
    simp only [cond_false] at h5
    cases as with
    | nil => cases h5
    | cons v As => cases v <;> first | exact Or.inr ⟨_, _, rfl, am_beq h5⟩ | (cases h5; done)
/-- the receiver's cell -/
theorem am_rcv (hE : am_E D B L xs ax s s.heap) (hI : am_I D B L xs ax s ad0 t0 c0 s0 ad S H locs cells slots) {k kd : Nat} {C : String} (hk : k < S.2.2.1 ∨ am_EXT ≤ k) (he : (S.1 k).1 + 1 = kd) (hC : C = cond (Nat.beq kd 78) "java/lang/String" (am_RX (kd - 2))) (h1 : 1 < kd) (h2 : kd < 13 ∨ kd = 78) :
    ∃ cellB : Cell, H[ad k]? = some cellB ∧ cellB.vm.isStatics = false ∧ s.vm.findClass C = some cellB.cls := by
  obtain ⟨hR, hS, hT0, hA0, hCc, hSl⟩ := hI
  rcases h2 with h2 | h2
  · rw [am_beq_f (by omega)] at hC
    simp only [cond_false] at hC
    subst hC
    obtain ⟨-, -, -, b4⟩ := hR.own hk (by omega) (by omega)
    obtain ⟨cell, g1, g2, g3, -⟩ := b4.1 (kd - 2) (by omega) (by omega)
    exact ⟨cell, g1, by rw [g3]; rfl, by rw [g2]; exact (hE.1.1 (kd - 2) _ (am_cl_has (by omega))).2.1⟩
  · subst h2
    have hC : C = "java/lang/String" := hC
    subst hC
    obtain ⟨a1, a2, a3, -⟩ := hR.ext hk (by omega)
    obtain ⟨g1, -⟩ := hE.2.2.2.2.1 k a1 (by rw [← a3]; omega)
    obtain ⟨cell, q1, q2, q3, -⟩ := g1.kept hS.2.1
    exact ⟨cell, by rw [a2]; exact q1, q2, q3⟩
theorem am_pay {j9 : Nat} {ws : List Cond} (hts : ∀ w ∈ am_T, w.before args s = true) (hws : ∀ w ∈ ws, w ∈ am_T) : ∀ w ∈ ws, ∀ (a' : Array Value) (U : State), s.WarmedH U.vm → w.before a' U = true := by
  intro w hw a' U hW
  exact word_at hW (good_of_word (List.mem_filter.mp (hws w hw)).2) (hts w (hws w hw))
end AmCall
