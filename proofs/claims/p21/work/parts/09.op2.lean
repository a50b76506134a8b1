/-! INSTRUCTIONS ON CELLS. The state of a run within a method: its cells stand for the small machine's; what was there before (t0 cells, addresses ad0) lies where it lay; what has been made is counted. -/
def am_I (D : va_G) (B L : Nat) (xs : Nat → Int32) (ax : Nat → Nat) (s : State) (ad0 : Nat → Nat) (t0 c0 s0 : Nat) (ad : Nat → Nat) (S : AmS) (H : Heap) (locs : List Loc) (cells slots : Nat) : Prop :=
  am_Rp D B L xs ax s ad S H ∧ va_S (am_A B) s.heap H locs ∧ t0 ≤ S.2.2.1 ∧ (∀ k, k < t0 → ad k = ad0 k) ∧ cells + c0 = S.2.2.2.1 ∧ slots + s0 = S.2.2.2.2
theorem am_uws {c : Nat} (h : c < 11) : ∀ w ∈ u_ws (am_RX c) (am_TX c) (am_NX c), w ∈ am_T := by
  intro w hw
  obtain ⟨k, hk, rfl⟩ := List.mem_map.mp hw
  obtain ⟨-, h2⟩ := Bool.and_eq_true_iff.mp (am_kc_ok h)
  obtain ⟨-, h3⟩ := Bool.and_eq_true_iff.mp h2
  exact am_w_in (Bool.and_eq_true_iff.mp (List.all_eq_true.mp h3 k hk)).1
theorem am_inst {c : Nat} (h : c < 11) : Cond.instantiable (am_RX c) (am_NX c) ∈ am_T := am_w_in (Bool.and_eq_true_iff.mp (am_kc_ok h)).1
theorem am_init {c : Nat} (h : c < 11) : Cond.initialized (am_RX c) ∈ am_T := am_w_in (Bool.and_eq_true_iff.mp (Bool.and_eq_true_iff.mp (am_kc_ok h)).2).1
theorem am_fkx {c k : Nat} (h : c < 11) (hk : k < am_NX c) : am_fkt (am_tyX c k) (am_fk c k) = true := by
  obtain ⟨-, h2⟩ := Bool.and_eq_true_iff.mp (am_kc_ok h)
  obtain ⟨-, h3⟩ := Bool.and_eq_true_iff.mp h2
  exact (Bool.and_eq_true_iff.mp (List.all_eq_true.mp h3 k (List.mem_range.mpr hk))).2
theorem am_dv_t {t : FieldType} {k : Nat} (h : am_fkt t k = true) (ad : Nat → Nat) : defaultValue t = am_tr ad (am_dv k) := by
  unfold am_fkt at h
  split at h <;> first | (cases h; done) | (have e := Nat.eq_of_beq_eq_true h; subst e; rfl)
theorem am_fit_t {t : FieldType} {k : Nat} {v : Value} (h : am_fkt t k = true) (hf : am_fit k v = true) (ad : Nat → Nat) : narrow t (am_tr ad v) = am_tr ad v ∧ fits t (am_tr ad v) = true := by
  unfold am_fkt at h
  split at h <;> first | (cases h; done) | skip
  all_goals
    have e := Nat.eq_of_beq_eq_true h
    subst e
  · cases v <;> first | (cases hf; done) | exact ⟨rfl, rfl⟩
  · cases v <;> first | (cases hf; done) | exact ⟨rfl, rfl⟩
  · cases v <;> first | (cases hf; done) | exact ⟨rfl, rfl⟩
  · cases v <;> first | (cases hf; done) | skip
    rename_i x
    rcases Bool.or_eq_true_iff.mp (show (decide (x = 0) || decide (x = 1)) = true from hf) with q | q
    · rw [of_decide_eq_true q]; exact ⟨rfl, rfl⟩
    · rw [of_decide_eq_true q]; exact ⟨rfl, rfl⟩
  · cases v <;> first | (cases hf; done) | exact ⟨rfl, rfl⟩
  · cases v <;> first | (cases hf; done) | exact ⟨rfl, rfl⟩
theorem am_lt_up {ad : Nat → Nat} {top q : Nat} (ht : top < am_EXT) {ls : AmL} (h : ∀ z ∈ ls, am_wf top z.2) : am_lt (am_up ad top q) ls = am_lt ad ls := by
  unfold am_lt
  exact List.map_congr_left fun z hz => by rw [am_tr_up ht (h z hz)]
theorem am_st_up {ad : Nat → Nat} {top q : Nat} (ht : top < am_EXT) {st : List Value} (h : ∀ z ∈ st, am_wf top z) : st.map (am_tr (am_up ad top q)) = st.map (am_tr ad) := List.map_congr_left fun z hz => am_tr_up ht (h z hz)
theorem am_in_e {i : Int32} {n : Nat} (h : am_in i n = true) : ¬ i < 0 ∧ i.toNatClampNeg < n := by
  obtain ⟨h1, h2⟩ := Bool.and_eq_true_iff.mp h
  refine ⟨fun q => ?_, am_blt h2⟩
  rw [decide_eq_true q] at h1
  cases h1
theorem am_Rp.val {D : va_G} {B L : Nat} {xs : Nat → Int32} {ax : Nat → Nat} {U : State} {ad : Nat → Nat} {S : AmS} {H : Heap} (h : am_Rp D B L xs ax U ad S H) {k : Nat} (hk : am_EXT ≤ k) (j : Nat) : am_tr ad (S.2.1 k j) = am_tr ax (am_M0 xs k j) := by
  rw [(h.2.2.1 k hk).2.2 j]
  cases hv : am_M0 xs k j with
  | ref q =>
    have := am_M0_wf xs k j q hv
    show Value.ref (ad q) = Value.ref (ax q)
    rw [(h.2.2.1 q (by omega)).1]
  | _ => rfl
theorem am_S.put {B : Nat} {H0 H H1 : Heap} {locs : List Loc} {a k : Nat} (h : va_S (am_A B) H0 H locs) (z : H1.size = H.size) (oq : ∀ q : Nat, q ≠ a → H1[q]? = H[q]?) (ha : B ≤ a) : va_S (am_A B) H0 H1 (locs ++ [⟨a, k⟩]) := va_S.put h z oq ha
theorem am_S.new {B : Nat} {H0 H H1 : Heap} {locs : List Loc} (h : va_S (am_A B) H0 H locs) (z : H.size ≤ H1.size) (oq : ∀ q : Nat, q < H.size → H1[q]? = H[q]?) : va_S (am_A B) H0 H1 locs :=
  ⟨Nat.le_trans h.1 z, fun x h1 h2 => (oq x (Nat.lt_of_lt_of_le h1 h.1)).trans (h.2.1 x h1 h2), h.2.2⟩
section AmMem
variable {p : Program} {l : Launch} {e : Env} {R : Room} {s : State} {m : MethodId} {args : Array Value} {below : List Frame} {meth : Method} {c : Code} {H : Heap} {locs : List Loc} {cells slots : Nat} {Q : State → Prop}
variable {j n n' nL : Nat} {o : AmIns} {ce : AmE} {ls ls' : AmL} {st st' : List Value} {S S' : AmS} {lsA : Array Slot} {ad ad0 ax : Nat → Nat} {B L t0 c0 s0 : Nat} {xs : Nat → Int32} {D : va_G}
/-- ldc_w of a text -/
theorem am_ldcwS {cc : ByteArray} {pc : Nat} {lsB : Array Slot} {rest : List Value} (hexec : p.tables.exec = Jvm.exec) (hb : c.code = cc) {own tx : String} {index q : Nat} (hown : s.vm.findClass own = some m.cls) (hZ : vk_R own index tx q s) (hdg : decode cc pc = .ok (.ldc_w index, 3))
    (k : W p l e R s m args below meth c H locs cells slots Q (F0 m (pc + 3) lsB (.ref q :: rest))) : W p l e R s m args below meth c H locs cells slots Q (F0 m pc lsB rest) := by
  intro T hT X
  obtain ⟨t, a1, b1⟩ := k T hT X
  refine ⟨t, ?_, b1⟩
  obtain ⟨kc, cf, i, a', hk, hcf, hcp, -, hr, hev'⟩ := Cond.stringRef_spec (args := #[]) (first := s) (o := none) (idx := []) hown hZ.1
  have ea : q = a' := by
    have h9 := hZ.2.symm.trans (show (Term.string own index).eval #[] s none [] s = some (.ref a') from hev')
    exact Value.ref.inj (Option.some.inj h9)
  subst ea
  obtain ⟨k', hk', he⟩ := X.warmed.alike.2.2 _ _ hk
  have hr' : k'.resolved[index]? = some (some (.string q)) := by
    rcases X.warmed.entry hk hk' index with h | ⟨h, -⟩
    · rw [h]; exact hr
    · rw [hr] at h; cases h
  jvm_step X.here [hexec, hb, hdg, Op.ldc_w.wp_string (e := e) (s := T) (f := F0 m pc lsB rest) X.here.top hk' (by rw [he]; exact hcf) hcp hr']
  exact a1
theorem am_p6 (hx : p.tables.exec = Jvm.exec) (hb : c.code = am_b j) (hd : decode (am_b j) ce.1 = .ok (ce.2.1, ce.2.2.1)) (hk : am_k6 j n o ce = true) (hown : s.vm.findClass (am_own j) = some m.cls) (hts : ∀ w ∈ am_T, w.before args s = true) (hE : am_E D B L xs ax s s.heap) (hI : am_I D B L xs ax s ad0 t0 c0 s0 ad S H locs cells slots) (hw : ∀ v ∈ st, am_wf S.2.2.1 v) (hwl : ∀ q ∈ ls, am_wf S.2.2.1 q.2) (hl : lv_has lsA nL (am_lt ad ls)) (h : am_o6 o n ls st S = some (n', ls', st', S'))
    (kk : ∀ (ad' : Nat → Nat) (H' : Heap) (locs' : List Loc) (cells' slots' : Nat) (lsB : Array Slot), am_I D B L xs ax s ad0 t0 c0 s0 ad' S' H' locs' cells' slots' → lv_has lsB nL (am_lt ad' ls') → W p l e R s m args below meth c H' locs' cells' slots' Q (F0 m (am_pc j n') lsB (st'.map (am_tr ad')))) : W p l e R s m args below meth c H locs cells slots Q (F0 m ce.1 lsA (st.map (am_tr ad))) := by
  obtain ⟨pc, ins, len, ws⟩ := ce
  obtain ⟨hR, hS, hT0, hA0, hC, hSl⟩ := hI
  unfold am_o6 at h
  unfold am_k6 at hk
  obtain ⟨hn, hk⟩ := Bool.and_eq_true_iff.mp hk
  replace hn := am_nx_e hn
  cases hc1 : Nat.beq o.2.2.1 1 with
  | true =>
    rw [hc1] at h
    simp only [cond_true] at h
    cases h
    have K := kk ad H locs cells slots lsA ⟨hR, hS, hT0, hA0, hC, hSl⟩ hl
    rw [hn] at K
    have e1 : S.2.1 (am_EXT + 1) 0 = am_sz xs := by rw [(hR.2.2.1 _ (Nat.le_add_right _ _)).2.2 0, am_M0_z]
    have e2 : am_tr ad (am_sz xs) = am_tr ax (am_sz xs) := by
      unfold am_sz
      cases decide (xs 1000000 = 0)
      · exact congrArg Value.ref (hR.2.2.1 _ (Nat.le_add_right _ _)).1
      · rfl
    rw [List.map_cons, e1, e2] at K
    dsimp only at hk hd K ⊢
    split at hk <;> first | (cases hk; done) | skip
    · rw [hc1] at hk
      exact absurd hk (by simp)
    · rw [hc1] at hk
      exact absurd hk (by simp)
    · rename_i i
      obtain ⟨-, hk⟩ := Bool.and_eq_true_iff.mp hk
      obtain ⟨k3, hk⟩ := Bool.and_eq_true_iff.mp hk
      obtain ⟨k5, k4⟩ := Bool.and_eq_true_iff.mp hk
      replace k3 := of_decide_eq_true k3
      replace k4 := am_beq k4
      subst k4
      exact va_gets hx hb hE.2.2.2.2.2.2.1 hS hown (hts _ (am_w_in k5)) (fun x h => h) hd K
  | false =>
  rw [hc1] at h
  simp only [cond_false] at h
  cases h
  have K := kk ad H locs cells slots lsA ⟨hR, hS, hT0, hA0, hC, hSl⟩ hl
  rw [hn] at K
  have hax : ad (am_EXT + o.2.1) = ax (am_EXT + o.2.1) := (hR.2.2.1 _ (Nat.le_add_right _ _)).1
  rw [List.map_cons, show am_tr ad (.ref (am_EXT + o.2.1)) = .ref (ax (am_EXT + o.2.1)) from congrArg Value.ref hax] at K
  dsimp only at hk hd K ⊢
  split at hk <;> first | (cases hk; done) | skip
  · rename_i i
    obtain ⟨k1, hk⟩ := Bool.and_eq_true_iff.mp hk
    obtain ⟨k2, hk⟩ := Bool.and_eq_true_iff.mp hk
    obtain ⟨k3, hk⟩ := Bool.and_eq_true_iff.mp hk
    obtain ⟨k4, -⟩ := Bool.and_eq_true_iff.mp hk
    replace k1 := am_blt k1
    replace k2 := am_blt k2
    replace k3 := of_decide_eq_true k3
    replace k4 := am_beq k4
    subst k4
    have hR9 := hE.2.2.2.2.2.1 (o.2.1 - 4) (by omega)
    rw [show am_EXT + 4 + (o.2.1 - 4) = am_EXT + o.2.1 by omega] at hR9
    obtain ⟨e1, e2⟩ := Prod.mk.inj k3
    unfold am_sr at hR9
    rw [e1, e2] at hR9
    exact va_ldcS hx hb hown hR9 hd K
  · rename_i i
    obtain ⟨k1, hk⟩ := Bool.and_eq_true_iff.mp hk
    obtain ⟨k2, hk⟩ := Bool.and_eq_true_iff.mp hk
    obtain ⟨k3, hk⟩ := Bool.and_eq_true_iff.mp hk
    obtain ⟨k4, -⟩ := Bool.and_eq_true_iff.mp hk
    replace k1 := am_blt k1
    replace k2 := am_blt k2
    replace k3 := of_decide_eq_true k3
    replace k4 := am_beq k4
    subst k4
    have hR9 := hE.2.2.2.2.2.1 (o.2.1 - 4) (by omega)
    rw [show am_EXT + 4 + (o.2.1 - 4) = am_EXT + o.2.1 by omega] at hR9
    obtain ⟨e1, e2⟩ := Prod.mk.inj k3
    unfold am_sr at hR9
    rw [e1, e2] at hR9
    exact am_ldcwS hx hb hown hR9 hd K
  · rw [hc1, Bool.false_and] at hk
    cases hk
theorem am_p24 (hx : p.tables.exec = Jvm.exec) (hb : c.code = am_b j) (hd : decode (am_b j) ce.1 = .ok (ce.2.1, ce.2.2.1)) (hk : am_k24 j n o ce = true) (hown : s.vm.findClass (am_own j) = some m.cls) (hts : ∀ w ∈ am_T, w.before args s = true) (hE : am_E D B L xs ax s s.heap) (hI : am_I D B L xs ax s ad0 t0 c0 s0 ad S H locs cells slots) (hw : ∀ v ∈ st, am_wf S.2.2.1 v) (hwl : ∀ q ∈ ls, am_wf S.2.2.1 q.2) (hl : lv_has lsA nL (am_lt ad ls)) (h : am_o24 o n ls st S = some (n', ls', st', S'))
    (kk : ∀ (ad' : Nat → Nat) (H' : Heap) (locs' : List Loc) (cells' slots' : Nat) (lsB : Array Slot), am_I D B L xs ax s ad0 t0 c0 s0 ad' S' H' locs' cells' slots' → lv_has lsB nL (am_lt ad' ls') → W p l e R s m args below meth c H' locs' cells' slots' Q (F0 m (am_pc j n') lsB (st'.map (am_tr ad')))) : W p l e R s m args below meth c H locs cells slots Q (F0 m ce.1 lsA (st.map (am_tr ad))) := by
  obtain ⟨pc, ins, len, ws⟩ := ce
  obtain ⟨hR, hS, hT0, hA0, hC, hSl⟩ := hI
  unfold am_o24 at h
  split at h
  · rename_i k r
    obtain ⟨h1, h2⟩ := am_cnd h
    cases h2
    replace h1 := am_beq h1
    have K := kk ad H locs cells slots lsA ⟨hR, hS, hT0, hA0, hC, hSl⟩ hl
    have hwk : k < S.2.2.1 ∨ am_EXT ≤ k := hw _ List.mem_cons_self k rfl
    unfold am_k24 at hk
    obtain ⟨hn, hk⟩ := Bool.and_eq_true_iff.mp hk
    replace hn := am_nx_e hn
    obtain ⟨k3, hk⟩ := Bool.and_eq_true_iff.mp hk
    replace k3 := am_beq k3
    rw [hn] at K
    dsimp only at hk hd K k3 ⊢
    subst k3
    split at hk <;> first | (cases hk; done) | skip
    rename_i i
    rcases Bool.or_eq_true_iff.mp hk with hk | hk
    · unfold am_kf at hk
      obtain ⟨ka, hk⟩ := Bool.and_eq_true_iff.mp hk
      obtain ⟨kb, hk⟩ := Bool.and_eq_true_iff.mp hk
      replace ka := am_blt ka
      replace kb := am_blt kb
      obtain ⟨-, hB, hlt, hcl⟩ := hR.own hwk (by omega) (by omega)
      obtain ⟨cell, q1, q2, q3, q4⟩ := hcl.1 o.2.1 h1 ka
      obtain ⟨hSK, hfc, kC, hkC, hkind⟩ := hE.1.1 o.2.1 _ (am_cl_has ka)
      obtain ⟨cf, kf, fi, f, hi, hsl⟩ := hSK o.2.2.1 kb
      have hst := (u_facts hfc hkC (u_lays hts (am_uws ka) kb) hi).1
      have hv : cell.slots[f.slot]? = some (am_tr ad (S.2.1 k o.2.2.1)) := by rw [hsl]; exact q4 o.2.2.1 kb
      rcases Bool.or_eq_true_iff.mp hk with hk | hk
      · exact W.getf hx hb hown (hts _ (am_w_in hk)) hi hst q1 (by rw [q3]; exact fun h => by cases h) hv rfl rfl hd K
      · rcases Bool.or_eq_true_iff.mp hk with hk | hk
        · exact va_Wgetf hx hb hown (va_Nw.use rfl (hE.2.1 _ (am_wn_in hk))) hi hst q1 (by rw [q3]; exact fun h => by cases h) hv rfl rfl hd K
        · exact va_Wgetf hx hb hown (va_Nw.use rfl (hE.2.1 _ (am_wn_in hk))) hi hst q1 (by rw [q3]; exact fun h => by cases h) hv rfl rfl hd K
    · obtain ⟨k1, hk⟩ := Bool.and_eq_true_iff.mp hk
      replace k1 := am_beq k1
      obtain ⟨a1, a2, a3, a4⟩ := hR.ext hwk (by omega)
      obtain ⟨g1, g2, g3⟩ := hE.2.2.2.2.1 k a1 (by rw [← a3]; omega)
      rw [List.map_cons, hR.val a1] at K
      rw [List.map_cons, show am_tr ad (.ref k) = .ref (ax k) from congrArg Value.ref a2]
      rcases Bool.or_eq_true_iff.mp hk with hk | hk
      · obtain ⟨k2, k4⟩ := Bool.and_eq_true_iff.mp hk
        rw [am_beq k2] at K
        exact vk_getf hx hb g2 hS hown (hts _ (am_w_in k4)) (fun x h => h) hd K
      · obtain ⟨k2, k4⟩ := Bool.and_eq_true_iff.mp hk
        rw [am_beq k2] at K
        exact vk_getf hx hb g3 hS hown (hts _ (am_w_in k4)) (fun x h => h) hd K
  · cases h
theorem am_p25 (hx : p.tables.exec = Jvm.exec) (hb : c.code = am_b j) (hd : decode (am_b j) ce.1 = .ok (ce.2.1, ce.2.2.1)) (hk : am_k25 j n o ce = true) (hown : s.vm.findClass (am_own j) = some m.cls) (hts : ∀ w ∈ am_T, w.before args s = true) (hE : am_E D B L xs ax s s.heap) (hI : am_I D B L xs ax s ad0 t0 c0 s0 ad S H locs cells slots) (hw : ∀ v ∈ st, am_wf S.2.2.1 v) (hwl : ∀ q ∈ ls, am_wf S.2.2.1 q.2) (hl : lv_has lsA nL (am_lt ad ls)) (hmn : meth.name = (am_y j).name) (h : am_o25 o n ls st S = some (n', ls', st', S'))
    (kk : ∀ (ad' : Nat → Nat) (H' : Heap) (locs' : List Loc) (cells' slots' : Nat) (lsB : Array Slot), am_I D B L xs ax s ad0 t0 c0 s0 ad' S' H' locs' cells' slots' → lv_has lsB nL (am_lt ad' ls') → W p l e R s m args below meth c H' locs' cells' slots' Q (F0 m (am_pc j n') lsB (st'.map (am_tr ad')))) : W p l e R s m args below meth c H locs cells slots Q (F0 m ce.1 lsA (st.map (am_tr ad))) := by
  obtain ⟨pc, ins, len, ws⟩ := ce
  obtain ⟨hR, hS, hT0, hA0, hC, hSl⟩ := hI
  unfold am_o25 at h
  split at h
  · rename_i v k r
    obtain ⟨h1, h2⟩ := am_cnd h
    cases h2
    obtain ⟨h1, h3⟩ := Bool.and_eq_true_iff.mp h1
    obtain ⟨h3, h4⟩ := Bool.and_eq_true_iff.mp h3
    replace h1 := am_beq h1
    replace h3 := am_blt h3
    unfold am_k25 at hk
    obtain ⟨hn, hk⟩ := Bool.and_eq_true_iff.mp hk
    replace hn := am_nx_e hn
    obtain ⟨k3, hk⟩ := Bool.and_eq_true_iff.mp hk
    replace k3 := am_beq k3
    dsimp only at hk hd k3 hn ⊢
    subst k3
    split at hk <;> first | (cases hk; done) | skip
    rename_i i
    obtain ⟨hkf, hk⟩ := Bool.and_eq_true_iff.mp hk
    obtain ⟨hft, hfin⟩ := Bool.and_eq_true_iff.mp hk
    unfold am_kf at hkf
    obtain ⟨ka, hkf⟩ := Bool.and_eq_true_iff.mp hkf
    obtain ⟨kb, hkf⟩ := Bool.and_eq_true_iff.mp hkf
    replace ka := am_blt ka
    replace kb := am_blt kb
    have hap := va_apart (own := "") hts (am_uws ka) (am_tyX o.2.1) (am_tyX_ok ka) (am_nmX ka) hE.1 (am_cl_has ka)
    obtain ⟨-, hB, hlt, hcl⟩ := hR.own (Or.inl h3) (by omega) (by omega)
    obtain ⟨cell, q1, q2, q3, q4⟩ := hcl.1 o.2.1 h1 ka
    obtain ⟨hSK, hfc, kC, hkC, hkind⟩ := hE.1.1 o.2.1 _ (am_cl_has ka)
    obtain ⟨cf, kf, fi, f, hi, hsl⟩ := hSK o.2.2.1 kb
    have hst := (u_facts hfc hkC (u_lays hts (am_uws ka) kb) hi).1
    obtain ⟨hnr, hfi⟩ := am_fit_t hft h4 ad
    have hty := am_tyX_ok ka o.2.2.1 kb
    have hfits := u_fits hfc hkC hkind (u_lays hts (am_uws ka) kb) hi hty hnr hfi
    have K : ∀ H' : Heap, H'[ad k]? = some (cell.setSlot f.slot (am_tr ad v)) → H'.size = H.size → (∀ q, q ≠ ad k → H'[q]? = H[q]?) → W p l e R s m args below meth c H' (locs ++ [⟨ad k, f.slot⟩]) cells slots Q (F0 m (pc + 3) lsA (st'.map (am_tr ad))) := by
      intro H' e1 e2 e3
      rw [← hn]
      refine kk ad H' _ cells slots lsA ⟨hR.put h3 (by omega) (M := am_upM S.2.1 k o.2.2.1 v) (fun b hb => by funext z; simp [am_upM, am_beq_f hb]) (fun z => ?_) e2 e3 ⟨fun c' hc' hlc => ?_, fun z1 z2 => absurd z1 (by omega), fun z => absurd z (by omega)⟩, am_S.put hS e2 e3 hB, hT0, hA0, hC, hSl⟩ hl
      · simp only [am_upM, am_beq_t, cond_true]
        cases Nat.beq z o.2.2.1
        · exact hR.2.2.2.2.2 k z h3
        · exact hw v List.mem_cons_self
      · have ec : c' = o.2.1 := by omega
        subst ec
        rw [hsl] at e1
        refine ⟨_, e1, q2, q3, fun z hz => ?_⟩
        rw [t_set q4 hap kb (am_tr ad v) z hz]
        simp only [updV, am_upM, am_beq_t, cond_true]
        by_cases ez : z = o.2.2.1
        · subst ez
          simp [am_beq_t]
        · simp [am_beq_f ez, ez]
    have hslot : f.slot < cell.slots.size := by rw [hsl]; exact k2_hasslot (q4 o.2.2.1 kb)
    cases hf : (am_TX o.2.1 o.2.2.1).2.2.2 with
    | true =>
      rw [hf] at hfin
      obtain ⟨f1, f2⟩ := Bool.and_eq_true_iff.mp hfin
      obtain ⟨f3, f4⟩ := of_decide_eq_true f1
      have hlay := hts _ (am_uws ka _ (u_in_lay kb))
      unfold u_lay at hlay
      rw [if_pos hf] at hlay
      have hcf : m.cls = cf := by
        obtain ⟨_, _, c', _, _, _, -, -, hf', -, -, -, hown2, -⟩ := Cond.laysFinal_spec hlay
        have e1 : c' = cf := by have := hi.symm.trans hf'; simp at this; exact this.1.symm
        rw [f4] at hown2
        rw [← e1]; exact Option.some.inj (hown.symm.trans hown2)
      exact W.putFinK hx hb hown (hts _ (am_w_in f2)) hi hst hcf (hmn.trans f3) (by rw [q2]; exact hfits) q1 q3 hslot rfl rfl hd K
    | false =>
      have hlay := hts _ (am_uws ka _ (u_in_lay kb))
      unfold u_lay at hlay
      rw [if_neg (by rw [hf]; decide)] at hlay
      have h6 := u_store hfc hkC hkind hlay hi hty hnr hfi
      rcases Bool.or_eq_true_iff.mp hkf with hk | hk
      · exact W.putK hx hb (f := f) ⟨hown, hts _ (am_w_in hk), ⟨_, _, _, hi⟩, hst⟩ (by rw [q2]; exact h6) q1 q3 hslot rfl rfl hd K
      · rcases Bool.or_eq_true_iff.mp hk with hk | hk
        · exact va_WputK hx hb hown (va_Nw.use rfl (hE.2.1 _ (am_wn_in hk))) hi hst (by rw [q2]; exact h6) q1 q3 hslot rfl rfl hd K
        · exact va_WputK hx hb hown (va_Nw.use rfl (hE.2.1 _ (am_wn_in hk))) hi hst (by rw [q2]; exact h6) q1 q3 hslot rfl rfl hd K
  · cases h
end AmMem
