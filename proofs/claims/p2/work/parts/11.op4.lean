/-! INSTRUCTIONS ON CELLS, the last: the copying of a row of ints, its clone; where the machine goes on within its method. -/
theorem am_z0 : (0 : Int32).toNatClampNeg = 0 := by decide
theorem am_z6 : (600 : Int32).toNatClampNeg = 600 := by decide
theorem am_nfw : nativeFrameWords "java/lang/System" "arraycopy" 5 ≤ 40 := by decide +kernel
theorem am_cpy (c0 c1 : ClassId) (F G : Nat → Value) : copied (arrV c0 600 F) (arrV c1 600 G) 0 0 600 = arrV c1 600 (fun j => cond (Nat.blt j 600) (F j) (G j)) := by
  have h := va_copied (fun z : Value => z) c0 c1 (n0 := 600) (n1 := 600) (sp := 0) (dp := 0) (n := 600) F G (Nat.le_refl _)
  show (arrV c1 600 G).storeRun (0 : Int32).toNatClampNeg ((arrV c0 600 F).stretch (0 : Int32).toNatClampNeg (600 : Int32).toNatClampNeg) = _
  rw [am_z0, am_z6]
  refine Eq.trans h ?_
  refine congrArg (arrV c1 600) (funext fun j => ?_)
  unfold va_cpy
  by_cases hj : j < 600
  · rw [if_pos ⟨Nat.zero_le _, by omega⟩, show Nat.blt j 600 = true from Nat.ble_eq_true_of_le hj, Nat.zero_add, Nat.sub_zero]
    rfl
  · rw [if_neg (by omega)]
    cases hb : Nat.blt j 600 with
    | true => exact absurd (am_blt hb) hj
    | false => rfl
section AmMem3
variable {p : Program} {l : Launch} {e : Env} {R : Room} {s : State} {m : MethodId} {args : Array Value} {below : List Frame} {meth : Method} {c : Code} {H : Heap} {locs : List Loc} {cells slots : Nat} {Q : State → Prop}
variable {j n n' nL : Nat} {o : AmIns} {ce : AmE} {ls ls' : AmL} {st st' : List Value} {S S' : AmS} {lsA : Array Slot} {ad ad0 ax : Nat → Nat} {B L t0 c0 s0 : Nat} {xs : Nat → Int32} {D : va_G}
theorem am_p36 (hx : p.tables.exec = Jvm.exec) (hb : c.code = am_b j) (hd : decode (am_b j) ce.1 = .ok (ce.2.1, ce.2.2.1)) (hk : am_k36 j n ce = true) (hown : s.vm.findClass (am_own j) = some m.cls) (hts : ∀ w ∈ am_T, w.before args s = true) (hE : am_E D B L xs ax s s.heap) (hI : am_I D B L xs ax s ad0 t0 c0 s0 ad S H locs cells slots) (hw : ∀ v ∈ st, am_wf S.2.2.1 v) (hwl : ∀ q ∈ ls, am_wf S.2.2.1 q.2) (hl : lv_has lsA nL (am_lt ad ls)) (hml : c.maxLocals = nL) (hRf : 1 ≤ R.frames) (hRl : 112 ≤ R.locals) (h : am_o36 o n ls st S = some (n', ls', st', S'))
    (kk : ∀ (ad' : Nat → Nat) (H' : Heap) (locs' : List Loc) (cells' slots' : Nat) (lsB : Array Slot), am_I D B L xs ax s ad0 t0 c0 s0 ad' S' H' locs' cells' slots' → lv_has lsB nL (am_lt ad' ls') → W p l e R s m args below meth c H' locs' cells' slots' Q (F0 m (am_pc j n') lsB (st'.map (am_tr ad')))) : W p l e R s m args below meth c H locs cells slots Q (F0 m ce.1 lsA (st.map (am_tr ad))) := by
  obtain ⟨pc, ins, len, ws⟩ := ce
  obtain ⟨hR, hS, hT0, hA0, hC, hSl⟩ := hI
  unfold am_o36 at h
  split at h
  · rename_i cn dp d sp sr r
    obtain ⟨h1, h2⟩ := am_cnd h
    cases h2
    obtain ⟨e1, h1⟩ := Bool.and_eq_true_iff.mp h1
    obtain ⟨e2, h1⟩ := Bool.and_eq_true_iff.mp h1
    obtain ⟨e3, h1⟩ := Bool.and_eq_true_iff.mp h1
    obtain ⟨e4, h1⟩ := Bool.and_eq_true_iff.mp h1
    obtain ⟨-, h1⟩ := Bool.and_eq_true_iff.mp h1
    obtain ⟨e6, h1⟩ := Bool.and_eq_true_iff.mp h1
    obtain ⟨e7, h1⟩ := Bool.and_eq_true_iff.mp h1
    obtain ⟨e8, h1⟩ := Bool.and_eq_true_iff.mp h1
    obtain ⟨e9, h1⟩ := Bool.and_eq_true_iff.mp h1
    obtain ⟨e10, e11⟩ := Bool.and_eq_true_iff.mp h1
    replace e1 := am_beq e1
    replace e2 := am_beq e2
    replace e3 := am_blt e3
    replace e4 := am_blt e4
    replace e6 := of_decide_eq_true e6
    replace e7 := of_decide_eq_true e7
    replace e8 := of_decide_eq_true e8
    replace e9 := am_beq e9
    replace e10 := am_beq e10
    replace e11 := Nat.le_of_ble_eq_true e11
    subst e6 e7 e8
    obtain ⟨-, -, -, b4⟩ := hR.own (k := sr) (Or.inl e3) (by rw [e1]; decide) (by rw [e1]; decide)
    obtain ⟨-, a2, a3, a4⟩ := hR.own (k := d) (Or.inl e4) (by rw [e2]; decide) (by rw [e2]; decide)
    obtain ⟨-, c0', g1, g2, g3⟩ := b4.2.1 (by rw [e1]; decide) (by rw [e1]; decide)
    obtain ⟨-, c1', f1, f2, f3⟩ := a4.2.1 (by rw [e2]; decide) (by rw [e2]; decide)
    rw [e1] at g2
    rw [e2] at f2
    rw [e9] at g1
    rw [e10] at f1
    unfold am_k36 at hk
    obtain ⟨hn, hk⟩ := Bool.and_eq_true_iff.mp hk
    replace hn := am_nx_e hn
    obtain ⟨k3, hk⟩ := Bool.and_eq_true_iff.mp hk
    replace k3 := am_beq k3
    dsimp only at hk hd k3 hn ⊢
    subst k3
    obtain ⟨ix, hix, hk⟩ : ∃ ix, ins = .invokestatic ix ∧ am_w (ws.getD 0 0) (.methodLink (am_own j) ix arraycopyName) = true := by
      split at hk
      · first | exact ⟨_, rfl, hk⟩ | exact ⟨_, by assumption, hk⟩
      · cases hk
    subst hix
    intro T hT X
    obtain ⟨-, k0, hk0, cm0, hkk0⟩ := g2 600 (fun j => am_tr ad (S.2.1 sr j))
    obtain ⟨-, k1, hk1, cm1, hkk1⟩ := f2 600 (fun j => am_tr ad (S.2.1 d j))
    obtain ⟨vm', X', step⟩ := X.arraycopy hx hown (hts _ (am_w_in hk)) (hts _ (am_xw 6 rfl (by decide))) (hts _ (am_xw 7 rfl (by decide))) (hts _ (am_xw 8 rfl (by decide))) (src := ad sr) (dst := ad d) (srcPos := 0) (destPos := 0) (n := 600)
      (by rw [hT]; exact g1) (by rw [hT]; exact f1) (fun _ h => by cases h) (fun _ h => by cases h) (fun h => by cases h) (fun h => by cases h) hk0 hk1 hkk0 hkk1 rfl (by decide) (by decide) (by decide) (by rw [arrV_size]; decide) (by rw [arrV_size]; decide)
      (fun vm1 _ i hi => by
        rw [am_z6] at hi
        obtain ⟨x, hx9⟩ := b4.2.2 e1 i
        have ev : (arrV c0' 600 (fun j => am_tr ad (S.2.1 sr j))).slots.getD ((0 : Int32).toNatClampNeg + i) .null = .int x := by
          rw [am_z0, Nat.zero_add, Array.getD_eq_getD_getElem?, arrV_read _ _ hi, hx9]
          rfl
        rw [ev]
        exact ⟨rfl, trivial⟩)
      (g := F0 m pc lsA (.int 600 :: .int 0 :: .ref (ad d) :: .int 0 :: .ref (ad sr) :: st'.map (am_tr ad))) rfl (by show lsA.size = _; rw [hl.1, hml]) (rest := st'.map (am_tr ad)) rfl (by rw [hb]; exact hd) hRf
      (by have := am_nfw; show 2 * 0 + _ + _ ≤ _; rw [am_tr_sum]; omega)
    rw [am_cpy] at X' step
    have z1 : (H.setIfInBounds (ad d) (arrV c1' 600 (fun j => cond (Nat.blt j 600) (am_tr ad (S.2.1 sr j)) (am_tr ad (S.2.1 d j))))).size = H.size := Array.size_setIfInBounds
    have oq : ∀ q : Nat, q ≠ ad d → (H.setIfInBounds (ad d) (arrV c1' 600 (fun j => cond (Nat.blt j 600) (am_tr ad (S.2.1 sr j)) (am_tr ad (S.2.1 d j)))))[q]? = H[q]? := fun q hq => by simp [Array.getElem?_setIfInBounds, Ne.symm hq]
    have eq : (H.setIfInBounds (ad d) (arrV c1' 600 (fun j => cond (Nat.blt j 600) (am_tr ad (S.2.1 sr j)) (am_tr ad (S.2.1 d j)))))[ad d]? = some (arrV c1' 600 (fun j => cond (Nat.blt j 600) (am_tr ad (S.2.1 sr j)) (am_tr ad (S.2.1 d j)))) := by simp [Array.getElem?_setIfInBounds, a3]
    rw [hn] at kk
    obtain ⟨t, u1, u2⟩ := kk ad (H.setIfInBounds (ad d) (arrV c1' 600 (fun j => cond (Nat.blt j 600) (am_tr ad (S.2.1 sr j)) (am_tr ad (S.2.1 d j))))) _ cells slots lsA
      ⟨hR.put e4 (by rw [e2]; decide) (M := fun b j => cond (Nat.beq b d && Nat.blt j 600) (S.2.1 sr j) (S.2.1 b j)) (fun b hb9 => by funext i; simp [am_beq_f hb9]) (fun i => by
          show am_wf _ (cond (Nat.beq d d && Nat.blt i 600) (S.2.1 sr i) (S.2.1 d i))
          cases Nat.beq d d && Nat.blt i 600
          · exact hR.2.2.2.2.2 d i e4
          · exact hR.2.2.2.2.2 sr i e3) z1 oq
        ⟨fun c' h8 h9 => absurd h8 (by omega), fun _ _ => ⟨by rw [e10]; decide, c1', by
          rw [eq, e10]
          congr 2
          funext i
          show _ = am_tr ad (cond (Nat.beq d d && Nat.blt i 600) (S.2.1 sr i) (S.2.1 d i))
          rw [am_beq_t, Bool.true_and]
          cases Nat.blt i 600 <;> rfl, by rw [e2]; exact f2, f3⟩, fun _ i => by
          show ∃ x : Int32, cond (Nat.beq d d && Nat.blt i 600) (S.2.1 sr i) (S.2.1 d i) = .int x
          cases Nat.beq d d && Nat.blt i 600
          · exact a4.2.2 e2 i
          · exact b4.2.2 e1 i⟩,
       ⟨by rw [z1]; exact hS.1, fun q q1 q2 => (oq q (fun e => q2 (by rw [e]; exact a2))).trans (hS.2.1 q q1 q2), fun q hq => by
          rcases List.mem_append.mp hq with h | h
          · exact hS.2.2 q h
          · obtain ⟨z, -, hz⟩ := List.mem_map.mp h
            rw [← hz]
            exact a2⟩, hT0, hA0, hC, hSl⟩ hl _ (by rw [← hT]; rfl) X'
    exact ⟨t, step t u1, u2⟩
  · cases h
theorem am_p37 (hx : p.tables.exec = Jvm.exec) (hb : c.code = am_b j) (hd : decode (am_b j) ce.1 = .ok (ce.2.1, ce.2.2.1)) (hk : am_k37 j n ce = true) (hown : s.vm.findClass (am_own j) = some m.cls) (hts : ∀ w ∈ am_T, w.before args s = true) (hE : am_E D B L xs ax s s.heap) (hI : am_I D B L xs ax s ad0 t0 c0 s0 ad S H locs cells slots) (hw : ∀ v ∈ st, am_wf S.2.2.1 v) (hwl : ∀ q ∈ ls, am_wf S.2.2.1 q.2) (hl : lv_has lsA nL (am_lt ad ls)) (hml : c.maxLocals = nL) (hRf : 1 ≤ R.frames) (hRl : 112 ≤ R.locals) (hRc : S'.2.2.2.1 ≤ c0 + R.cells) (hRs : S'.2.2.2.2 ≤ s0 + R.slots) (h : am_o37 o n ls st S = some (n', ls', st', S'))
    (kk : ∀ (ad' : Nat → Nat) (H' : Heap) (locs' : List Loc) (cells' slots' : Nat) (lsB : Array Slot), am_I D B L xs ax s ad0 t0 c0 s0 ad' S' H' locs' cells' slots' → lv_has lsB nL (am_lt ad' ls') → W p l e R s m args below meth c H' locs' cells' slots' Q (F0 m (am_pc j n') lsB (st'.map (am_tr ad')))) : W p l e R s m args below meth c H locs cells slots Q (F0 m ce.1 lsA (st.map (am_tr ad))) := by
  obtain ⟨pc, ins, len, ws⟩ := ce
  obtain ⟨hR, hS, hT0, hA0, hC, hSl⟩ := hI
  unfold am_o37 at h
  split at h
  · rename_i k r
    obtain ⟨h1, h2⟩ := am_cnd h
    cases h2
    obtain ⟨e1, h1⟩ := Bool.and_eq_true_iff.mp h1
    obtain ⟨e2, h1⟩ := Bool.and_eq_true_iff.mp h1
    obtain ⟨e3, h1⟩ := Bool.and_eq_true_iff.mp h1
    obtain ⟨e4, e5⟩ := Bool.and_eq_true_iff.mp h1
    replace e1 := am_beq e1
    replace e2 := am_blt e2
    replace e3 := am_blt e3
    replace e4 := am_blt e4
    replace e5 := Nat.le_of_ble_eq_true e5
    obtain ⟨-, a2, a3, a4⟩ := hR.own (k := k) (Or.inl e2) (by rw [e1]; decide) (by rw [e1]; decide)
    obtain ⟨-, cA, g1, g2, g3⟩ := a4.2.1 (by rw [e1]; decide) (by rw [e1]; decide)
    rw [e1] at g2 g3
    unfold am_k37 at hk
    obtain ⟨hn, hk⟩ := Bool.and_eq_true_iff.mp hk
    replace hn := am_nx_e hn
    obtain ⟨k3, hk⟩ := Bool.and_eq_true_iff.mp hk
    replace k3 := am_beq k3
    dsimp only at hk hd k3 hn hRc hRs ⊢
    subst k3
    obtain ⟨ix, hix, hk⟩ : ∃ ix, ins = .invokevirtual ix ∧ am_w (ws.getD 0 0) (.methodLink (am_own j) ix ⟨"[I", "clone", "()Ljava/lang/Object;"⟩) = true := by
      split at hk
      · first | exact ⟨_, rfl, hk⟩ | exact ⟨_, by assumption, hk⟩
      · cases hk
    subst hix
    have hcast := va_Nw.use (A := args) rfl hE.2.2.2.2.2.2.2.2.2.2.2.2.1
    obtain ⟨c0', t0', f1, f2, f3⟩ := Cond.castable_spec hcast
    cases (show s.vm.findClass "[I" = some cA from g3).symm.trans f1
    intro T hT X
    have hcellT : T.heap[ad k]? = some (arrV cA (S.1 k).2 (fun j => am_tr ad (S.2.1 k j))) := by rw [hT]; exact g1
    obtain ⟨-, kA, hkA, comp, hkind⟩ := State.isArrayOf_alike X.warmed.alike (g2 0 (fun _ => .null))
    obtain ⟨-, kS, hkS, compS, hkindS⟩ := g2 0 (fun _ => .null)
    obtain ⟨vm', X', step⟩ := X.cloneArray hx hown (hts _ (am_w_in hk)) (hts _ (am_xw 9 rfl (by decide))) (hts _ (am_xw 10 rfl (by decide))) (hts _ (am_xw 11 rfl (by decide))) (hts _ (am_xw 12 rfl (by decide))) (a := ad k) hcellT (fun _ h => by cases h) (fun h => by cases h) g3 f2 f3
      (fun i v hv => by
        have hk' : T.vm.classes[cA]? = some kA := hkA
        have h9 : fits .int v = true := va_fit (cA := cA) (n := (S.1 k).2) (F := fun j => am_tr ad (S.2.1 k j)) (fun i _ => by obtain ⟨x, hx9⟩ := a4.2.2 e1 i; show fits _ (am_tr ad (S.2.1 k i)) = true; rw [hx9]; rfl) i v hv
        have hkind' : kA.kind = .array comp .int := hkind
        show T.fitsSlot cA .none i v = true
        simpa [State.fitsSlot, State.slotType?, hk', hkind'] using h9)
      (g := F0 m pc lsA (.ref (ad k) :: r.map (am_tr ad))) rfl (by show lsA.size = _; rw [hl.1, hml]) (rest := r.map (am_tr ad)) rfl (by rw [hb]; exact hd) hRf (by show 2 * 0 + _ + 14 ≤ _; rw [am_tr_sum]; omega) (by omega) (by rw [arrV_size]; omega) (hloader := Vm.clonesLoader_of_array hkS hkindS)
    rw [arrV_size] at X'
    have z1 : (H.push (arrV cA (S.1 k).2 (fun j => am_tr ad (S.2.1 k j)))).size = H.size + 1 := Array.size_push _
    have q1 : (H.push (arrV cA (S.1 k).2 (fun j => am_tr ad (S.2.1 k j))))[H.size]? = some (arrV cA (S.1 k).2 (fun j => am_tr ad (S.2.1 k j))) := Array.getElem?_push_size
    have o1 : ∀ q : Nat, q < H.size → (H.push (arrV cA (S.1 k).2 (fun j => am_tr ad (S.2.1 k j))))[q]? = H[q]? := fun q hq => by rw [Array.getElem?_push, if_neg (Nat.ne_of_lt hq)]
    rw [hn] at kk
    have hwk : ∀ i, am_wf S.2.2.1 (S.2.1 k i) := fun i => hR.2.2.2.2.2 k i e2
    obtain ⟨t, u1, u2⟩ := kk (am_up ad S.2.2.1 H.size) (H.push (arrV cA (S.1 k).2 (fun j => am_tr ad (S.2.1 k j)))) locs (cells + 1) (slots + (S.1 k).2) lsA
      ⟨hR.new e3 _ _ (i := (61, (S.1 k).2)) (d := S.2.1 k) (by show 61 ≤ 65; decide) hwk (by omega) o1 (fun _ => ⟨Nat.le_refl _, by omega, fun c' h8 h9 => absurd h8 (by show ¬ 61 = c' + 1; omega), fun _ _ => ⟨by show (S.1 k).2 < 2 ^ 31; omega, cA, q1, g2, g3⟩, fun _ i => a4.2.2 e1 i⟩),
       am_S.new hS (by omega) o1, Nat.le_succ_of_le hT0, fun k9 hk9 => by
          rw [am_up_n ad _ (by omega)]
          exact hA0 k9 hk9, by show cells + 1 + c0 = S.2.2.2.1 + 1; omega, by show slots + (S.1 k).2 + s0 = S.2.2.2.2 + (S.1 k).2; omega⟩ (by rw [am_lt_up e3 hwl]; exact hl) _ (by rw [← hT]; rfl) X'
    refine ⟨t, step t ?_, u2⟩
    rw [List.map_cons, am_st_up e3 (fun z hz => hw z (List.mem_cons_of_mem _ hz)), show am_tr (am_up ad S.2.2.1 H.size) (.ref S.2.2.1) = .ref H.size from congrArg Value.ref (am_up_s _ _ _)] at u1
    rw [hT]
    exact u1
  · cases h
end AmMem3
