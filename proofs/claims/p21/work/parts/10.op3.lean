/-! INSTRUCTIONS ON CELLS, on: making, arrays. -/
theorem am_ek_ty {t : Nat} : (am_ek t = 0 → am_ty t = .int) ∧ (am_ek t = 1 → am_ty t = .long) ∧ (am_ek t = 10 → am_ty t = .boolean) ∧ (am_ek t = 11 → am_ty t = .byte) ∧ (am_ek t = 3 → (am_ty t).isReference = true) := by
  refine ⟨?_, ?_, ?_, ?_, ?_⟩ <;> (intro h; unfold am_ek at h; split at h <;> first | rfl | (cases h; done))
theorem am_ek_r {t b : Nat} (h : am_ek t = b) (hb : b < 99) : 61 ≤ t ∧ t ≤ 76 ∧ (t ≤ 65 ∨ 71 ≤ t) := by
  subst h
  unfold am_ek at hb
  split at hb <;> first | (exact absurd hb (by decide)) | (refine ⟨?_, ?_, ?_⟩ <;> omega)
theorem am_RA_p {s : State} {cA : ClassId} {ty : FieldType} (hp : ty = .int ∨ ty = .long ∨ ty = .boolean ∨ ty = .byte) (h : s.vm.findClass ("[" ++ ty.toString) = some cA) : va_RA s cA ty := by
  rcases hp with rfl | rfl | rfl | rfl <;> exact h
section AmMem2
variable {p : Program} {l : Launch} {e : Env} {R : Room} {s : State} {m : MethodId} {args : Array Value} {below : List Frame} {meth : Method} {c : Code} {H : Heap} {locs : List Loc} {cells slots : Nat} {Q : State → Prop}
variable {j n n' nL : Nat} {o : AmIns} {ce : AmE} {ls ls' : AmL} {st st' : List Value} {S S' : AmS} {lsA : Array Slot} {ad ad0 ax : Nat → Nat} {B L t0 c0 s0 : Nat} {xs : Nat → Int32} {D : va_G}
theorem am_p28 (hx : p.tables.exec = Jvm.exec) (hb : c.code = am_b j) (hd : decode (am_b j) ce.1 = .ok (ce.2.1, ce.2.2.1)) (hk : am_k28 j n o ce = true) (hown : s.vm.findClass (am_own j) = some m.cls) (hts : ∀ w ∈ am_T, w.before args s = true) (hE : am_E D B L xs ax s s.heap) (hI : am_I D B L xs ax s ad0 t0 c0 s0 ad S H locs cells slots) (hw : ∀ v ∈ st, am_wf S.2.2.1 v) (hwl : ∀ q ∈ ls, am_wf S.2.2.1 q.2) (hl : lv_has lsA nL (am_lt ad ls)) (hRc : S'.2.2.2.1 ≤ c0 + R.cells) (hRs : S'.2.2.2.2 ≤ s0 + R.slots) (h : am_o28 o n ls st S am_fk = some (n', ls', st', S'))
    (kk : ∀ (ad' : Nat → Nat) (H' : Heap) (locs' : List Loc) (cells' slots' : Nat) (lsB : Array Slot), am_I D B L xs ax s ad0 t0 c0 s0 ad' S' H' locs' cells' slots' → lv_has lsB nL (am_lt ad' ls') → W p l e R s m args below meth c H' locs' cells' slots' Q (F0 m (am_pc j n') lsB (st'.map (am_tr ad')))) : W p l e R s m args below meth c H locs cells slots Q (F0 m ce.1 lsA (st.map (am_tr ad))) := by
  obtain ⟨pc, ins, len, ws⟩ := ce
  obtain ⟨hR, hS, hT0, hA0, hC, hSl⟩ := hI
  unfold am_o28 at h
  obtain ⟨h1, h2⟩ := am_cnd h
  cases h2
  replace h1 := am_blt h1
  unfold am_k28 at hk
  replace hk := Bool.and_eq_true_iff.mp hk
  obtain ⟨hn, hk⟩ := hk
  replace hn := am_nx_e hn
  replace hk := Bool.and_eq_true_iff.mp hk
  obtain ⟨k3, hk⟩ := hk
  replace k3 := am_beq k3
  dsimp only at hk hd k3 hn hRc hRs ⊢
  subst k3
  split at hk <;> first | (cases hk; done) | skip
  rename_i i
  replace hk := Bool.and_eq_true_iff.mp hk
  obtain ⟨ka, hk⟩ := hk
  obtain ⟨kb, kc⟩ := Bool.and_eq_true_iff.mp hk
  replace ka := am_blt ka
  replace kb := am_beq kb
  have hKn := hE.1.1 o.2.1 _ (am_cl_has ka)
  refine W.newcK hx hb hown (hts _ (am_w_in kc)) (hts _ (am_inst ka)) (hts _ (am_init ka)) rfl hd (by omega) (by rw [← kb]; omega) hKn.2.1 rfl fun H1 kC hkC e1 z1 o1 => ?_
  have hborn := (u_born (am_tyX o.2.1) hts (am_uws ka) hKn hkC e1 (am_tyX_ok ka)).to (fun z hz => am_dv_t (am_fkx ka hz) ad)
  have K := kk (am_up ad S.2.2.1 H.size) H1 locs (cells + 1) (slots + o.2.2.1) lsA ⟨hR.new h1 _ _ (i := (o.2.1 + 1, o.2.2.1)) (d := fun z => am_dv (am_fk o.2.1 z)) (by show o.2.1 + 1 ≤ 65; omega) (fun z => am_wf_dv) (by omega) o1 (fun _ => ⟨Nat.le_refl _, by omega, fun c' hc' hlc => ?_, fun z1 z2 => absurd z1 (by show ¬ 61 ≤ o.2.1 + 1; omega), fun z => absurd z (by show ¬ o.2.1 + 1 = 61; omega)⟩),
    am_S.new hS (by omega) o1, Nat.le_succ_of_le hT0, fun k hk => ?_, by show cells + 1 + c0 = S.2.2.2.1 + 1; omega, by show slots + o.2.2.1 + s0 = S.2.2.2.2 + o.2.2.1; omega⟩ (by rw [am_lt_up h1 hwl]; exact hl)
  · rw [hn, List.map_cons, am_st_up h1 hw, show am_tr (am_up ad S.2.2.1 H.size) (.ref S.2.2.1) = .ref H.size from congrArg Value.ref (am_up_s _ _ _)] at K
    rw [kb] at K
    exact K
  · have ec : o.2.1 = c' := by have : o.2.1 + 1 = c' + 1 := hc'; omega
    subst ec
    exact hborn
  · rw [am_up_n ad _ (by omega)]
    exact hA0 k hk
theorem am_p29 (hx : p.tables.exec = Jvm.exec) (hb : c.code = am_b j) (hd : decode (am_b j) ce.1 = .ok (ce.2.1, ce.2.2.1)) (hk : am_k29 j n o ce = true) (hown : s.vm.findClass (am_own j) = some m.cls) (hts : ∀ w ∈ am_T, w.before args s = true) (hE : am_E D B L xs ax s s.heap) (hI : am_I D B L xs ax s ad0 t0 c0 s0 ad S H locs cells slots) (hw : ∀ v ∈ st, am_wf S.2.2.1 v) (hwl : ∀ q ∈ ls, am_wf S.2.2.1 q.2) (hl : lv_has lsA nL (am_lt ad ls)) (hRc : S'.2.2.2.1 ≤ c0 + R.cells) (hRs : S'.2.2.2.2 ≤ s0 + R.slots) (h : am_o29 o n ls st S = some (n', ls', st', S'))
    (kk : ∀ (ad' : Nat → Nat) (H' : Heap) (locs' : List Loc) (cells' slots' : Nat) (lsB : Array Slot), am_I D B L xs ax s ad0 t0 c0 s0 ad' S' H' locs' cells' slots' → lv_has lsB nL (am_lt ad' ls') → W p l e R s m args below meth c H' locs' cells' slots' Q (F0 m (am_pc j n') lsB (st'.map (am_tr ad')))) : W p l e R s m args below meth c H locs cells slots Q (F0 m ce.1 lsA (st.map (am_tr ad))) := by
  obtain ⟨pc, ins, len, ws⟩ := ce
  obtain ⟨hR, hS, hT0, hA0, hC, hSl⟩ := hI
  unfold am_o29 at h
  split at h
  · rename_i x r
    obtain ⟨h1, h2⟩ := am_cnd h
    cases h2
    replace h1 := Bool.and_eq_true_iff.mp h1
    obtain ⟨h3, h1⟩ := h1
    replace h1 := Bool.and_eq_true_iff.mp h1
    obtain ⟨h4, h1⟩ := h1
    replace h1 := am_blt h1
    have h4 : x.toNatClampNeg ≤ 1000000 := Nat.le_of_ble_eq_true h4
    have h5 : ¬ x < 0 := fun q => by
      rw [decide_eq_true q] at h3
      cases h3
    unfold am_k29 at hk
    replace hk := Bool.and_eq_true_iff.mp hk
    obtain ⟨hn, hk⟩ := hk
    replace hn := am_nx_e hn
    dsimp only at hk hd hn hRc hRs ⊢
    have G : ∀ (cA : ClassId) (H1 : Heap), 61 ≤ o.2.1 → o.2.1 ≤ 65 → H1[H.size]? = some (arrV cA x.toNatClampNeg (fun _ => am_tr ad (am_dv (am_ek o.2.1)))) → H1.size = H.size + 1 → (∀ q, q < H.size → H1[q]? = H[q]?) → ArrOfT s cA (am_ty o.2.1) → va_RA s cA (am_ty o.2.1) →
        W p l e R s m args below meth c H1 locs (cells + 1) (slots + x.toNatClampNeg) Q (F0 m (pc + len) lsA (.ref H.size :: r.map (am_tr ad))) := by
      intro cA H1 ha hz e1 z1 o1 g1 g2
      have K := kk (am_up ad S.2.2.1 H.size) H1 locs (cells + 1) (slots + x.toNatClampNeg) lsA ⟨hR.new h1 _ _ (i := (o.2.1, x.toNatClampNeg)) (d := fun _ => am_dv (am_ek o.2.1)) hz (fun z => am_wf_dv) (by omega) o1 (fun _ => ⟨Nat.le_refl _, by omega, fun c' hc' hlc => absurd hc' (by show ¬ o.2.1 = c' + 1; omega), fun z1 z2 => ⟨by show x.toNatClampNeg < 2 ^ 31; omega, cA, e1, g1, g2⟩, fun z _ => ⟨0, by show am_dv (am_ek o.2.1) = _; rw [show o.2.1 = 61 from z]; rfl⟩⟩),
        am_S.new hS (by omega) o1, Nat.le_succ_of_le hT0, fun k hk => ?_, by show cells + 1 + c0 = S.2.2.2.1 + 1; omega, by show slots + x.toNatClampNeg + s0 = S.2.2.2.2 + x.toNatClampNeg; omega⟩ (by rw [am_lt_up h1 hwl]; exact hl)
      · rw [hn, List.map_cons, am_st_up h1 (fun z hz => hw z (List.mem_cons_of_mem _ hz)), show am_tr (am_up ad S.2.2.1 H.size) (.ref S.2.2.1) = .ref H.size from congrArg Value.ref (am_up_s _ _ _)] at K
        exact K
      · rw [am_up_n ad _ (by omega)]
        exact hA0 k hk
    split at hk <;> first | (cases hk; done) | skip
    · obtain ⟨k1, k3⟩ := Bool.and_eq_true_iff.mp hk
      replace k1 := am_beq k1
      replace k3 := am_beq k3
      subst k3
      rw [k1] at G
      exact va_newaK hx hb (hts _ (am_xw 0 rfl (by decide))) rfl hd rfl h5 rfl (by show _ * 4 ≤ _; omega) (by omega) (by omega) rfl fun H1 cA e1 z1 o1 hA hN => G cA H1 (by decide) (by decide) e1 z1 o1 hA (am_RA_p (Or.inl rfl) hN)
    · obtain ⟨k1, k3⟩ := Bool.and_eq_true_iff.mp hk
      replace k1 := am_beq k1
      replace k3 := am_beq k3
      subst k3
      rw [k1] at G
      exact va_newaK hx hb (hts _ (am_xw 1 rfl (by decide))) rfl hd rfl h5 rfl (by show _ * 8 ≤ _; omega) (by omega) (by omega) rfl fun H1 cA e1 z1 o1 hA hN => G cA H1 (by decide) (by decide) e1 z1 o1 hA (am_RA_p (Or.inr (Or.inl rfl)) hN)
    · obtain ⟨k1, k3⟩ := Bool.and_eq_true_iff.mp hk
      replace k1 := am_beq k1
      replace k3 := am_beq k3
      subst k3
      rw [k1] at G
      exact va_newaK hx hb (hts _ (am_xw 2 rfl (by decide))) rfl hd rfl h5 rfl (by show _ * 1 ≤ _; omega) (by omega) (by omega) rfl fun H1 cA e1 z1 o1 hA hN => G cA H1 (by decide) (by decide) e1 z1 o1 hA (am_RA_p (Or.inr (Or.inr (Or.inl rfl))) hN)
    · obtain ⟨k1, k3⟩ := Bool.and_eq_true_iff.mp hk
      replace k1 := am_beq k1
      replace k3 := am_beq k3
      subst k3
      rw [k1] at G
      exact va_newaK hx hb (hts _ (am_xw 3 rfl (by decide))) rfl hd rfl h5 rfl (by show _ * 1 ≤ _; omega) (by omega) (by omega) rfl fun H1 cA e1 z1 o1 hA hN => G cA H1 (by decide) (by decide) e1 z1 o1 hA (am_RA_p (Or.inr (Or.inr (Or.inr rfl))) hN)
    · obtain ⟨k1, hk⟩ := Bool.and_eq_true_iff.mp hk
      obtain ⟨k3, k4⟩ := Bool.and_eq_true_iff.mp hk
      replace k1 := am_beq k1
      replace k3 := am_beq k3
      subst k3
      rw [k1] at G
      refine W.anew hx hb hown (hts _ (am_w_in k4)) (va_AO.use hE.2.2.1) rfl hd rfl h5 (by omega) (by omega) (by omega) fun cA kA comp f1 f2 f3 f4 => ?_
      exact G cA _ (by decide) (by decide) (by rw [Array.getElem?_push_size, ← arrV_new]; rfl) (Array.size_push _) (fun q hq => by rw [Array.getElem?_push, if_neg (Nat.ne_of_lt hq)]) (fun N z => ⟨(fun k h => by cases h), kA, f2, comp, f3⟩) ⟨kA, comp, f2, f3, f4, f1⟩
  · cases h
theorem am_p31 (hx : p.tables.exec = Jvm.exec) (hb : c.code = am_b j) (hd : decode (am_b j) ce.1 = .ok (ce.2.1, ce.2.2.1)) (hk : am_k31 j n ce = true) (hown : s.vm.findClass (am_own j) = some m.cls) (hts : ∀ w ∈ am_T, w.before args s = true) (hE : am_E D B L xs ax s s.heap) (hI : am_I D B L xs ax s ad0 t0 c0 s0 ad S H locs cells slots) (hw : ∀ v ∈ st, am_wf S.2.2.1 v) (hwl : ∀ q ∈ ls, am_wf S.2.2.1 q.2) (hl : lv_has lsA nL (am_lt ad ls)) (h : am_o31 o n ls st S = some (n', ls', st', S'))
    (kk : ∀ (ad' : Nat → Nat) (H' : Heap) (locs' : List Loc) (cells' slots' : Nat) (lsB : Array Slot), am_I D B L xs ax s ad0 t0 c0 s0 ad' S' H' locs' cells' slots' → lv_has lsB nL (am_lt ad' ls') → W p l e R s m args below meth c H' locs' cells' slots' Q (F0 m (am_pc j n') lsB (st'.map (am_tr ad')))) : W p l e R s m args below meth c H locs cells slots Q (F0 m ce.1 lsA (st.map (am_tr ad))) := by
  obtain ⟨pc, ins, len, ws⟩ := ce
  obtain ⟨hR, hS, hT0, hA0, hC, hSl⟩ := hI
  unfold am_o31 at h
  split at h
  · rename_i k r
    obtain ⟨h1, h2⟩ := am_cnd h
    cases h2
    replace h1 := Bool.and_eq_true_iff.mp h1
    obtain ⟨h1, h3⟩ := h1
    replace h1 := am_blt h1
    replace h3 := am_blt h3
    have K := kk ad H locs cells slots lsA ⟨hR, hS, hT0, hA0, hC, hSl⟩ hl
    have hwk : k < S.2.2.1 ∨ am_EXT ≤ k := hw _ List.mem_cons_self k rfl
    unfold am_k31 at hk
    replace hk := Bool.and_eq_true_iff.mp hk
    obtain ⟨hn, hk⟩ := hk
    replace hn := am_nx_e hn
    replace hk := Bool.and_eq_true_iff.mp hk
    obtain ⟨k3, hk⟩ := hk
    replace k3 := am_beq k3
    rw [hn] at K
    dsimp only at hk hd K k3 ⊢
    split at hk <;> first | (cases hk; done) | skip
    subst_vars
    have h4 : (S.1 k).1 ≤ 65 ∨ 71 ≤ (S.1 k).1 := by
      rcases hwk with hwk | hwk
      · exact Or.inl (hR.2.2.2.1 k hwk).1
      · right
        have e := (hR.2.2.1 k hwk).2.1
        rcases am_I0_tag L k with q | q | q | q | q <;> rw [e] at h1 h3 ⊢ <;> omega
    obtain ⟨cell, g1, g2, g3, g4, g5, g6⟩ := am_arr (s := s) hE (fun q hq => hS.2.1 q (Nat.lt_of_lt_of_le hq hE.2.2.2.2.2.2.2.2) (by show ¬ B ≤ q; omega)) hR hwk (by omega) (by omega) h4
    exact W.alen hx hb g1 g2 g5 rfl rfl hd K
  · cases h
theorem am_p32 (hx : p.tables.exec = Jvm.exec) (hb : c.code = am_b j) (hd : decode (am_b j) ce.1 = .ok (ce.2.1, ce.2.2.1)) (hk : am_k32 j n o ce = true) (hown : s.vm.findClass (am_own j) = some m.cls) (hts : ∀ w ∈ am_T, w.before args s = true) (hE : am_E D B L xs ax s s.heap) (hI : am_I D B L xs ax s ad0 t0 c0 s0 ad S H locs cells slots) (hw : ∀ v ∈ st, am_wf S.2.2.1 v) (hwl : ∀ q ∈ ls, am_wf S.2.2.1 q.2) (hl : lv_has lsA nL (am_lt ad ls)) (h : am_o32 o n ls st S = some (n', ls', st', S'))
    (kk : ∀ (ad' : Nat → Nat) (H' : Heap) (locs' : List Loc) (cells' slots' : Nat) (lsB : Array Slot), am_I D B L xs ax s ad0 t0 c0 s0 ad' S' H' locs' cells' slots' → lv_has lsB nL (am_lt ad' ls') → W p l e R s m args below meth c H' locs' cells' slots' Q (F0 m (am_pc j n') lsB (st'.map (am_tr ad')))) : W p l e R s m args below meth c H locs cells slots Q (F0 m ce.1 lsA (st.map (am_tr ad))) := by
  obtain ⟨pc, ins, len, ws⟩ := ce
  obtain ⟨hR, hS, hT0, hA0, hC, hSl⟩ := hI
  unfold am_o32 at h
  split at h
  · rename_i i k r
    obtain ⟨h1, h2⟩ := am_cnd h
    cases h2
    replace h1 := Bool.and_eq_true_iff.mp h1
    obtain ⟨h1, h3⟩ := h1
    obtain ⟨h3, h4⟩ := am_in_e h3
    have K := kk ad H locs cells slots lsA ⟨hR, hS, hT0, hA0, hC, hSl⟩ hl
    have hwk : k < S.2.2.1 ∨ am_EXT ≤ k := hw _ (List.mem_cons_of_mem _ List.mem_cons_self) k rfl
    unfold am_k32 at hk
    replace hk := Bool.and_eq_true_iff.mp hk
    obtain ⟨hn, hk⟩ := hk
    replace hn := am_nx_e hn
    replace hk := Bool.and_eq_true_iff.mp hk
    obtain ⟨k3, hk⟩ := hk
    replace k3 := am_beq k3
    rw [hn] at K
    dsimp only at hk hd K k3 ⊢
    have G : ∀ b, am_ek (S.1 k).1 = b → b < 99 → ∃ cell : Cell, H[ad k]? = some cell ∧ s.isArrayOf cell (am_ty (S.1 k).1) ∧ cell.vm ≠ .unknown ∧ ¬ (i < 0 ∨ cell.slots.size ≤ i.toNatClampNeg) ∧ cell.slots[i.toNatClampNeg]? = some (am_tr ad (S.2.1 k i.toNatClampNeg)) := by
      intro b hb1 hb2
      obtain ⟨r1, r2, r3⟩ := am_ek_r hb1 hb2
      obtain ⟨cell, g1, g2, g3, g4, g5, g6⟩ := am_arr (s := s) hE (fun q hq => hS.2.1 q (Nat.lt_of_lt_of_le hq hE.2.2.2.2.2.2.2.2) (by show ¬ B ≤ q; omega)) hR hwk r1 r2 r3
      exact ⟨cell, g1, g2, g3, fun q => by rcases q with q | q; exact h3 q; omega, g6 _ h4⟩
    split at hk <;> first | (cases hk; done) | skip
    all_goals
      subst_vars
      replace hk := am_beq hk
      rw [hk] at h1
    · have h1 : am_ek (S.1 k).1 = 0 := by
        rcases Bool.or_eq_true_iff.mp h1 with q | q
        · exact am_beq q
        · exact absurd (Bool.and_eq_true_iff.mp q).1 (by decide)
      obtain ⟨cell, g1, g2, g3, g4, g5⟩ := G 0 h1 (by decide)
      rw [am_ek_ty.1 h1] at g2
      exact W.iald hx hb g1 g2 g3 g4 g5 rfl rfl hd K
    · have h1 : am_ek (S.1 k).1 = 1 := by
        rcases Bool.or_eq_true_iff.mp h1 with q | q
        · exact am_beq q
        · exact absurd (Bool.and_eq_true_iff.mp q).1 (by decide)
      obtain ⟨cell, g1, g2, g3, g4, g5⟩ := G 1 h1 (by decide)
      rw [am_ek_ty.2.1 h1] at g2
      exact W.lald hx hb g1 g2 g3 g4 g5 rfl rfl hd K
    · rcases Bool.or_eq_true_iff.mp h1 with q | q
      · replace h1 := am_beq q
        obtain ⟨cell, g1, g2, g3, g4, g5⟩ := G 11 h1 (by decide)
        rw [am_ek_ty.2.2.2.1 h1] at g2
        exact W.bald hx hb g1 g2 g3 g4 g5 rfl rfl hd K
      · replace h1 := am_beq (Bool.and_eq_true_iff.mp q).2
        obtain ⟨cell, g1, g2, g3, g4, g5⟩ := G 10 h1 (by decide)
        rw [am_ek_ty.2.2.1 h1] at g2
        exact W.zald hx hb g1 g2 g3 g4 g5 rfl rfl hd K
    · have h1 : am_ek (S.1 k).1 = 3 := by
        rcases Bool.or_eq_true_iff.mp h1 with q | q
        · exact am_beq q
        · exact absurd (Bool.and_eq_true_iff.mp q).1 (by decide)
      obtain ⟨cell, g1, g2, g3, g4, g5⟩ := G 3 h1 (by decide)
      exact W.aald hx hb g1 g2 (am_ek_ty.2.2.2.2 h1) g3 g4 g5 rfl rfl hd K
  · cases h
theorem am_p33 (hx : p.tables.exec = Jvm.exec) (hb : c.code = am_b j) (hd : decode (am_b j) ce.1 = .ok (ce.2.1, ce.2.2.1)) (hk : am_k33 j n o ce = true) (hown : s.vm.findClass (am_own j) = some m.cls) (hts : ∀ w ∈ am_T, w.before args s = true) (hE : am_E D B L xs ax s s.heap) (hI : am_I D B L xs ax s ad0 t0 c0 s0 ad S H locs cells slots) (hw : ∀ v ∈ st, am_wf S.2.2.1 v) (hwl : ∀ q ∈ ls, am_wf S.2.2.1 q.2) (hl : lv_has lsA nL (am_lt ad ls)) (h : am_o33 o n ls st S = some (n', ls', st', S'))
    (kk : ∀ (ad' : Nat → Nat) (H' : Heap) (locs' : List Loc) (cells' slots' : Nat) (lsB : Array Slot), am_I D B L xs ax s ad0 t0 c0 s0 ad' S' H' locs' cells' slots' → lv_has lsB nL (am_lt ad' ls') → W p l e R s m args below meth c H' locs' cells' slots' Q (F0 m (am_pc j n') lsB (st'.map (am_tr ad')))) : W p l e R s m args below meth c H locs cells slots Q (F0 m ce.1 lsA (st.map (am_tr ad))) := by
  obtain ⟨pc, ins, len, ws⟩ := ce
  obtain ⟨hR, hS, hT0, hA0, hC, hSl⟩ := hI
  unfold am_o33 at h
  split at h
  · rename_i v i k r
    obtain ⟨h1, h2⟩ := am_cnd h
    cases h2
    replace h1 := Bool.and_eq_true_iff.mp h1
    obtain ⟨h1, h3⟩ := h1
    replace h3 := Bool.and_eq_true_iff.mp h3
    obtain ⟨h3, h5⟩ := h3
    replace h5 := Bool.and_eq_true_iff.mp h5
    obtain ⟨h5, h6⟩ := h5
    obtain ⟨h3, h4⟩ := am_in_e h3
    replace h5 := am_blt h5
    unfold am_k33 at hk
    replace hk := Bool.and_eq_true_iff.mp hk
    obtain ⟨hn, hk⟩ := hk
    replace hn := am_nx_e hn
    replace hk := Bool.and_eq_true_iff.mp hk
    obtain ⟨k3, hk⟩ := hk
    replace hk := Bool.and_eq_true_iff.mp hk
    obtain ⟨k4, hk⟩ := hk
    replace k3 := am_beq k3
    replace k4 := am_beq k4
    dsimp only at hk hd k3 k4 hn ⊢
    have G : ∀ t, (S.1 k).1 = t → 61 ≤ t → t ≤ 65 → B ≤ ad k ∧ ∃ cA : ClassId, H[ad k]? = some (arrV cA (S.1 k).2 (fun z => am_tr ad (S.2.1 k z))) ∧ ArrOfT s cA (am_ty t) ∧ va_RA s cA (am_ty t) ∧ (am_wf S.2.2.1 (am_nar t v) → (t = 61 → ∃ x : Int32, am_nar t v = .int x) →
        ∀ H' : Heap, H'[ad k]? = some ((arrV cA (S.1 k).2 (fun z => am_tr ad (S.2.1 k z))).setSlot i.toNatClampNeg (am_tr ad (am_nar t v))) → H'.size = H.size → (∀ q, q ≠ ad k → H'[q]? = H[q]?) → W p l e R s m args below meth c H' (locs ++ [⟨ad k, i.toNatClampNeg⟩]) cells slots Q (F0 m (pc + 1) lsA (st'.map (am_tr ad)))) := by
      intro t ht r1 r2
      obtain ⟨-, hB, hlt, hcl⟩ := hR.own (Or.inl h5) (by omega) (by omega)
      obtain ⟨z, cA, g1, g2, g3⟩ := hcl.2.1 (by omega) (by omega)
      rw [ht] at g2 g3
      refine ⟨hB, cA, g1, g2, g3, fun hwv hiv H' e1 e2 e3 => ?_⟩
      rw [← k3, ← hn]
      refine kk ad H' _ cells slots lsA ⟨hR.put h5 (by omega) (M := am_upM S.2.1 k i.toNatClampNeg (am_nar (S.1 k).1 v)) (fun b hb => by funext z; simp [am_upM, am_beq_f hb]) (fun z => ?_) e2 e3 ⟨fun c' hc' hlc => absurd hc' (by omega), fun z1 z2 => ⟨z, cA, ?_, by rw [ht]; exact g2, by rw [ht]; exact g3⟩, fun q z => ?_⟩, am_S.put hS e2 e3 hB, hT0, hA0, hC, hSl⟩ hl
      · simp only [am_upM, am_beq_t, cond_true]
        cases Nat.beq z i.toNatClampNeg
        · exact hR.2.2.2.2.2 k z h5
        · rw [ht]; exact hwv
      · rw [e1, arrV_store]
        congr 2
        funext y
        simp only [updV, am_upM, am_beq_t, cond_true]
        by_cases ey : y = i.toNatClampNeg
        · subst ey
          simp [am_beq_t, ht]
        · simp [am_beq_f ey, ey]
      · simp only [am_upM, am_beq_t, cond_true]
        cases Nat.beq z i.toNatClampNeg
        · exact hcl.2.2 q z
        · rw [ht]; exact hiv (by omega)
    have hin : ∀ (cA : ClassId) (f : Nat → Value), ¬ (i < 0 ∨ (arrV cA (S.1 k).2 f).slots.size ≤ i.toNatClampNeg) := fun cA f q => by
      rw [arrV_size] at q
      rcases q with q | q
      · exact h3 q
      · omega
    split at hk <;> first | (cases hk; done) | skip
    all_goals
      subst_vars
      replace hk := am_beq hk
      rw [hk] at h1 h6
    · have ht : (S.1 k).1 = 61 := by
        rcases Bool.or_eq_true_iff.mp h1 with q | q
        · exact am_beq q
        · exact absurd (Bool.and_eq_true_iff.mp q).1 (by decide)
      have h6 : am_kd v = 0 := am_beq h6
      cases v <;> first | exact absurd h6 (Nat.ne_of_beq_eq_false rfl) | skip
      obtain ⟨hB, cA, g1, g2, g3, g4⟩ := G 61 ht (by decide) (by decide)
      exact W.iast hx hb g1 (g2 _ _) (fun q => by cases q) (hin _ _) rfl rfl hd (g4 am_wf_i (fun _ => ⟨_, rfl⟩))
    · have ht : (S.1 k).1 = 62 := by
        rcases Bool.or_eq_true_iff.mp h1 with q | q
        · exact am_beq q
        · exact absurd (Bool.and_eq_true_iff.mp q).1 (by decide)
      have h6 : am_kd v = 1 := am_beq h6
      cases v <;> first | exact absurd h6 (Nat.ne_of_beq_eq_false rfl) | skip
      obtain ⟨hB, cA, g1, g2, g3, g4⟩ := G 62 ht (by decide) (by decide)
      exact W.last hx hb g1 (g2 _ _) (fun q => by cases q) (hin _ _) rfl rfl hd (g4 am_wf_l (fun q => absurd q (by decide)))
    · have h6 : am_kd v = 0 := am_beq h6
      cases v <;> first | exact absurd h6 (Nat.ne_of_beq_eq_false rfl) | skip
      rcases Bool.or_eq_true_iff.mp h1 with q | q
      · obtain ⟨hB, cA, g1, g2, g3, g4⟩ := G 64 (am_beq q) (by decide) (by decide)
        exact W.bast hx hb g1 (g2 _ _) (fun q => by cases q) (hin _ _) rfl rfl hd (g4 am_wf_i (fun q => absurd q (by decide)))
      · obtain ⟨hB, cA, g1, g2, g3, g4⟩ := G 63 (am_beq (Bool.and_eq_true_iff.mp q).2) (by decide) (by decide)
        exact W.zast hx hb g1 (g2 _ _) (fun q => by cases q) (hin _ _) rfl rfl hd (g4 am_wf_i (fun q => absurd q (by decide)))
    · have ht : (S.1 k).1 = 65 := by
        rcases Bool.or_eq_true_iff.mp h1 with q | q
        · exact am_beq q
        · exact absurd (Bool.and_eq_true_iff.mp q).1 (by decide)
      obtain ⟨hB, cA, g1, g2, g3, g4⟩ := G 65 ht (by decide) (by decide)
      cases v <;> first | (cases h6; done) | skip
      rename_i q
      have hq : (S.1 q).1 = 77 := by
        have := am_beq (show Nat.beq (S.1 q).1 (o.2.2.1 + 1) = true from h6)
        omega
      obtain ⟨a1, a2, a3, -⟩ := hR.ext (hw _ List.mem_cons_self q rfl) (by omega)
      obtain ⟨w1, -⟩ := hE.2.2.2.2.1 q a1 (by rw [← a3]; omega)
      obtain ⟨cv, v1, v3, v2, -⟩ := w1.kept hS.2.1
      rw [← a2] at v1
      obtain ⟨kA, comp, f2, f3, f4, -⟩ := g3
      obtain ⟨kE, hkE, -⟩ := Vm.findClass_spec f4
      obtain ⟨kC, hkC, -⟩ := Vm.findClass_spec v2
      have ec : cv.cls = comp := Option.some.inj (v2.symm.trans f4)
      exact W.aast hx hb g1 (fun q h => by cases h) (fun h => by cases h) f2 f3 rfl hkE ⟨h3, by rw [arrV_size]; exact h4⟩ v1 (fun q h => by rw [h] at v3; cases v3) hkC (by rw [ec]; exact va_asg _ _) rfl rfl hd (g4 (hw _ List.mem_cons_self) (fun q => absurd q (by decide)))
  · cases h
theorem am_p34 (hx : p.tables.exec = Jvm.exec) (hb : c.code = am_b j) (hd : decode (am_b j) ce.1 = .ok (ce.2.1, ce.2.2.1)) (hk : am_k34 j n ce = true) (hown : s.vm.findClass (am_own j) = some m.cls) (hts : ∀ w ∈ am_T, w.before args s = true) (hE : am_E D B L xs ax s s.heap) (hI : am_I D B L xs ax s ad0 t0 c0 s0 ad S H locs cells slots) (hw : ∀ v ∈ st, am_wf S.2.2.1 v) (hwl : ∀ q ∈ ls, am_wf S.2.2.1 q.2) (hl : lv_has lsA nL (am_lt ad ls)) (h : am_o34 o n ls st S = some (n', ls', st', S'))
    (kk : ∀ (ad' : Nat → Nat) (H' : Heap) (locs' : List Loc) (cells' slots' : Nat) (lsB : Array Slot), am_I D B L xs ax s ad0 t0 c0 s0 ad' S' H' locs' cells' slots' → lv_has lsB nL (am_lt ad' ls') → W p l e R s m args below meth c H' locs' cells' slots' Q (F0 m (am_pc j n') lsB (st'.map (am_tr ad')))) : W p l e R s m args below meth c H locs cells slots Q (F0 m ce.1 lsA (st.map (am_tr ad))) := by
  obtain ⟨pc, ins, len, ws⟩ := ce
  obtain ⟨hR, hS, hT0, hA0, hC, hSl⟩ := hI
  unfold am_o34 at h
  split at h
  · rename_i k r
    obtain ⟨h1, h2⟩ := am_cnd h
    cases h2
    replace h1 := am_beq h1
    have K := kk ad H locs cells slots lsA ⟨hR, hS, hT0, hA0, hC, hSl⟩ hl
    have hwk : k < S.2.2.1 ∨ am_EXT ≤ k := hw _ List.mem_cons_self k rfl
    unfold am_k34 at hk
    replace hk := Bool.and_eq_true_iff.mp hk
    obtain ⟨hn, hk⟩ := hk
    replace hn := am_nx_e hn
    replace hk := Bool.and_eq_true_iff.mp hk
    obtain ⟨k3, hk⟩ := hk
    replace k3 := am_beq k3
    rw [hn] at K
    dsimp only at hk hd K k3 ⊢
    subst k3
    split at hk <;> first | (cases hk; done) | skip
    obtain ⟨-, hB, hlt, hcl⟩ := hR.own hwk (by omega) (by omega)
    obtain ⟨z, cA, g1, g2, g3⟩ := hcl.2.1 (by omega) (by omega)
    obtain ⟨f, hf⟩ := Classical.axiomOfChoice (hcl.2.2 h1)
    have ef : (fun j => am_tr ad (S.2.1 k j)) = (fun j => .int (f j)) := funext fun j => by rw [hf j]; rfl
    rw [ef] at g1
    rw [h1] at g3
    exact va_castA hx hb hown (hts _ (am_w_in hk)) (D := D) (cl := vwCl) (ws := [(ad k, .inl (cA, (S.1 k).2, .inl f))]) (fun y q hy => by
      cases y with
      | zero => cases hy; exact g1
      | succ y => cases hy) 0 rfl g3 hd K
  · cases h
theorem am_p35 (hx : p.tables.exec = Jvm.exec) (hb : c.code = am_b j) (hd : decode (am_b j) ce.1 = .ok (ce.2.1, ce.2.2.1)) (hk : am_k35 j n ce = true) (hown : s.vm.findClass (am_own j) = some m.cls) (hts : ∀ w ∈ am_T, w.before args s = true) (hE : am_E D B L xs ax s s.heap) (hI : am_I D B L xs ax s ad0 t0 c0 s0 ad S H locs cells slots) (hw : ∀ v ∈ st, am_wf S.2.2.1 v) (hwl : ∀ q ∈ ls, am_wf S.2.2.1 q.2) (hl : lv_has lsA nL (am_lt ad ls)) (hml : c.maxLocals = nL) (hRf : 1 ≤ R.frames) (hRl : 112 ≤ R.locals) (h : am_o35 o n ls st S = some (n', ls', st', S'))
    (kk : ∀ (ad' : Nat → Nat) (H' : Heap) (locs' : List Loc) (cells' slots' : Nat) (lsB : Array Slot), am_I D B L xs ax s ad0 t0 c0 s0 ad' S' H' locs' cells' slots' → lv_has lsB nL (am_lt ad' ls') → W p l e R s m args below meth c H' locs' cells' slots' Q (F0 m (am_pc j n') lsB (st'.map (am_tr ad')))) : W p l e R s m args below meth c H locs cells slots Q (F0 m ce.1 lsA (st.map (am_tr ad))) := by
  obtain ⟨pc, ins, len, ws⟩ := ce
  obtain ⟨hR, hS, hT0, hA0, hC, hSl⟩ := hI
  unfold am_o35 at h
  split at h
  · rename_i k r
    obtain ⟨h1, h2⟩ := am_cnd h
    cases h2
    replace h1 := Nat.le_of_ble_eq_true h1
    have K := kk ad H locs cells slots lsA ⟨hR, hS, hT0, hA0, hC, hSl⟩ hl
    unfold am_k35 at hk
    replace hk := Bool.and_eq_true_iff.mp hk
    obtain ⟨hn, hk⟩ := hk
    replace hn := am_nx_e hn
    replace hk := Bool.and_eq_true_iff.mp hk
    obtain ⟨k3, hk⟩ := hk
    replace k3 := am_beq k3
    rw [hn] at K
    dsimp only at hk hd K k3 ⊢
    subst k3
    split at hk <;> first | (cases hk; done) | skip
    exact W.objInit hx hb hown (hts _ (am_w_in hk)) (hts _ (am_xw 4 rfl (by decide))) (hts _ (am_xw 5 rfl (by decide))) rfl (by show lsA.size = _; rw [hl.1, hml]) rfl hd hRf (by show 2 * 0 + _ + 12 ≤ _; rw [am_tr_sum]; omega) K
  · cases h
theorem am_p38 (hx : p.tables.exec = Jvm.exec) (hb : c.code = am_b j) (hd : decode (am_b j) ce.1 = .ok (ce.2.1, ce.2.2.1)) (hk : am_k38 j n o ce = true) (hown : s.vm.findClass (am_own j) = some m.cls) (hts : ∀ w ∈ am_T, w.before args s = true) (hE : am_E D B L xs ax s s.heap) (hI : am_I D B L xs ax s ad0 t0 c0 s0 ad S H locs cells slots) (hw : ∀ v ∈ st, am_wf S.2.2.1 v) (hwl : ∀ q ∈ ls, am_wf S.2.2.1 q.2) (hl : lv_has lsA nL (am_lt ad ls)) (hml : c.maxLocals = nL) (hRf : 1 ≤ R.frames) (hRl : 112 ≤ R.locals) (hRc : S.2.2.2.1 ≤ c0 + R.cells) (hRs : S.2.2.2.2 ≤ s0 + R.slots) (h : am_o38 o n ls st S = some (n', ls', st', S'))
    (kk : ∀ (ad' : Nat → Nat) (H' : Heap) (locs' : List Loc) (cells' slots' : Nat) (lsB : Array Slot), am_I D B L xs ax s ad0 t0 c0 s0 ad' S' H' locs' cells' slots' → lv_has lsB nL (am_lt ad' ls') → W p l e R s m args below meth c H' locs' cells' slots' Q (F0 m (am_pc j n') lsB (st'.map (am_tr ad')))) : W p l e R s m args below meth c H locs cells slots Q (F0 m ce.1 lsA (st.map (am_tr ad))) := by
  obtain ⟨pc, ins, len, ws⟩ := ce
  obtain ⟨hR, hS, hT0, hA0, hC, hSl⟩ := hI
  have hm2 : c.maxLocals = lsA.size := by rw [hl.1, hml]
  unfold am_o38 at h
  unfold am_k38 at hk
  replace hk := Bool.and_eq_true_iff.mp hk
  obtain ⟨hn, hk⟩ := hk
  replace hn := am_nx_e hn
  replace hk := Bool.and_eq_true_iff.mp hk
  obtain ⟨k3, hk⟩ := hk
  replace k3 := am_beq k3
  dsimp only at hk hd k3 hn ⊢
  subst k3
  split at hk <;> first | (cases hk; done) | skip
  rename_i i
  split at h
  · rename_i y x r e1
    obtain ⟨h1, h2⟩ := am_cnd h
    cases h2
    replace h1 := Nat.le_of_ble_eq_true h1
    have K := kk ad H locs cells slots lsA ⟨hR, hS, hT0, hA0, hC, hSl⟩ hl
    rw [hn] at K
    rcases Bool.or_eq_true_iff.mp hk with hk | hk
    · obtain ⟨-, hk⟩ := Bool.and_eq_true_iff.mp hk
      refine va_mmax hx hb hm2 hown (hts _ (am_w_in hk)) (hts _ (am_xw 14 rfl (by decide))) (hts _ (am_xw 13 rfl (by decide))) (hts _ (am_xw 15 rfl (by decide))) hRf (by rw [am_tr_sum]; omega) (by omega) (by omega) hd ?_
      by_cases q : x < y
      · rw [if_pos q]; rw [decide_eq_true q] at K; exact K
      · rw [if_neg q]; rw [decide_eq_false q] at K; exact K
    · rcases Bool.or_eq_true_iff.mp hk with hk | hk
      · exact absurd ((am_beq (Bool.and_eq_true_iff.mp hk).1).symm.trans e1) (by decide)
      · exact absurd ((am_beq (Bool.and_eq_true_iff.mp hk).1).symm.trans e1) (by decide)
  · rename_i y x r e1
    obtain ⟨h1, h2⟩ := am_cnd h
    cases h2
    replace h1 := Nat.le_of_ble_eq_true h1
    have K := kk ad H locs cells slots lsA ⟨hR, hS, hT0, hA0, hC, hSl⟩ hl
    rw [hn] at K
    rcases Bool.or_eq_true_iff.mp hk with hk | hk
    · exact absurd ((am_beq (Bool.and_eq_true_iff.mp hk).1).symm.trans e1) (by decide)
    · rcases Bool.or_eq_true_iff.mp hk with hk | hk
      · obtain ⟨-, hk⟩ := Bool.and_eq_true_iff.mp hk
        refine va_mmin hx hb hm2 hown (hts _ (am_w_in hk)) (hts _ (am_xw 16 rfl (by decide))) (hts _ (am_xw 13 rfl (by decide))) (hts _ (am_xw 17 rfl (by decide))) hRf (by rw [am_tr_sum]; omega) (by omega) (by omega) hd ?_
        by_cases q : y < x
        · rw [if_pos q]; rw [decide_eq_true q] at K; exact K
        · rw [if_neg q]; rw [decide_eq_false q] at K; exact K
      · exact absurd ((am_beq (Bool.and_eq_true_iff.mp hk).1).symm.trans e1) (by decide)
  · cases h
end AmMem2
