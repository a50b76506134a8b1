/-! ONE INSTRUCTION: where the small machine goes on, the machine does. First those that leave the cells as they are. -/
theorem am_cnd {α : Type} {b : Bool} {x : Option α} {y : α} (h : cond b x none = some y) : b = true ∧ x = some y := by
  cases b
  · cases h
  · exact ⟨rfl, h⟩
theorem am_beq {a b : Nat} (h : Nat.beq a b = true) : a = b := Nat.eq_of_beq_eq_true h
theorem am_blt {a b : Nat} (h : Nat.blt a b = true) : a < b := by
  have := Nat.le_of_ble_eq_true (show Nat.ble (a + 1) b = true from h)
  omega
theorem am_nx_e {j n : Nat} {e : AmE} (h : am_nx j n e = true) : am_pc j (n + 1) = e.1 + e.2.2.1 := of_decide_eq_true h
theorem am_tg_e {j : Nat} {e : AmE} {t : Nat} {off : Int} (h : am_tg j e t off = true) : (e.1 : Int) + off = (am_pc j t : Int) := of_decide_eq_true h
def am_lt (ad : Nat → Nat) (ls : AmL) : List (Nat × Value) := ls.map fun q => (q.1, am_tr ad q.2)
theorem am_lk_at {lsA : Array Slot} {nL : Nat} {ad : Nat → Nat} : ∀ {ls : AmL} {i : Nat} {v : Value}, lv_has lsA nL (am_lt ad ls) → am_lk ls i = some v → lsA[i]? = some (.val (am_tr ad v)) := by
  intro ls
  induction ls with
  | nil => intro i v _ h; cases h
  | cons q l ih =>
    intro i v hl h
    unfold am_lk at h
    cases hb : Nat.beq q.1 i with
    | true =>
      rw [hb] at h
      have e : q.2 = v := Option.some.inj h
      have := hl.2.2 (q.1, am_tr ad q.2) (by simp [am_lt])
      rw [← am_beq hb, ← e]
      exact this
    | false =>
      rw [hb] at h
      exact ih ⟨hl.1, hl.2.1, fun z hz => hl.2.2 z (by simp only [am_lt, List.map_cons]; exact List.mem_cons_of_mem _ hz)⟩ h
theorem am_lt_f1 (ad : Nat → Nat) (ls : AmL) (i : Nat) : (am_lt ad ls).filter (fun q => !(q.1 == i) && !(q.1 + 1 == i && q.2.category == 2)) = am_lt ad (ls.filter (fun q => !(q.1 == i) && !(q.1 + 1 == i && q.2.category == 2))) := by
  unfold am_lt
  rw [List.filter_map]
  congr 1
  apply List.filter_congr
  intro q _
  simp [Function.comp, am_tr_cat]
theorem am_lt_f2 (ad : Nat → Nat) (ls : AmL) (i : Nat) : (am_lt ad ls).filter (fun q => !(q.1 == i) && (!(q.1 == i + 1) && !(q.1 + 1 == i && q.2.category == 2))) = am_lt ad (ls.filter (fun q => !(q.1 == i) && (!(q.1 == i + 1) && !(q.1 + 1 == i && q.2.category == 2)))) := by
  unfold am_lt
  rw [List.filter_map]
  congr 1
  apply List.filter_congr
  intro q _
  simp [Function.comp, am_tr_cat]
theorem am_lk_mem : ∀ {ls : AmL} {i : Nat} {v : Value}, am_lk ls i = some v → (i, v) ∈ ls := by
  intro ls
  induction ls with
  | nil => intro i v h; cases h
  | cons q l ih =>
    intro i v h
    unfold am_lk at h
    cases hb : Nat.beq q.1 i with
    | true =>
      rw [hb] at h
      have e : q.2 = v := Option.some.inj h
      rw [← am_beq hb, ← e]
      exact List.mem_cons_self
    | false =>
      rw [hb] at h
      exact List.mem_cons_of_mem _ (ih h)
section AmPure
variable {p : Program} {l : Launch} {e : Env} {R : Room} {s : State} {m : MethodId} {args : Array Value} {below : List Frame} {meth : Method} {c : Code} {H : Heap} {locs : List Loc} {cells slots : Nat} {Q : State → Prop}
variable {j n n' nL : Nat} {o : AmIns} {ce : AmE} {ls ls' : AmL} {st st' : List Value} {S S' : AmS} {lsA : Array Slot} {ad : Nat → Nat} {B : Nat}
theorem am_p0 (hx : p.tables.exec = Jvm.exec) (hb : c.code = am_b j) (hd : decode (am_b j) ce.1 = .ok (ce.2.1, ce.2.2.1)) (hk : am_k0 j n o ce = true) (hl : lv_has lsA nL (am_lt ad ls)) (h : am_o0 o n ls st S = some (n', ls', st', S'))
    (kk : S' = S → ∀ lsB, lv_has lsB nL (am_lt ad ls') → W p l e R s m args below meth c H locs cells slots Q (F0 m (am_pc j n') lsB (st'.map (am_tr ad)))) : W p l e R s m args below meth c H locs cells slots Q (F0 m ce.1 lsA (st.map (am_tr ad))) := by
  obtain ⟨pc, ins, len, ws⟩ := ce
  unfold am_o0 at h
  split at h
  · rename_i v hv
    obtain ⟨h1, h2⟩ := am_cnd h
    cases h2
    replace h1 := am_beq h1
    have ha := am_lk_at hl hv
    unfold am_k0 at hk
    obtain ⟨hn, hk⟩ := Bool.and_eq_true_iff.mp hk
    replace hn := am_nx_e hn
    have K := kk rfl lsA hl
    rw [hn] at K
    dsimp only at hk hd K ⊢
    split at hk <;> first | (cases hk; done) | skip
    all_goals
      obtain ⟨k1, hk⟩ := Bool.and_eq_true_iff.mp hk
      obtain ⟨k2, k3⟩ := Bool.and_eq_true_iff.mp hk
      replace k1 := am_beq k1
      replace k2 := am_beq k2
      replace k3 := am_beq k3
      rw [k2] at h1
      cases v <;> first | exact absurd h1 (Nat.ne_of_beq_eq_false rfl) | skip
    · subst k3; subst k1; exact lv_iload hx hb hd ha K
    · subst k3; exact lv_iload_n hx hb hd k1 ha K
    · subst k3; subst k1; exact lv_lload hx hb hd ha K
    · subst k3; exact lv_lload_n hx hb hd k1 ha K
    · subst k3; subst k1; exact lv_dload hx hb hd ha K
    · subst k3; exact lv_dload_n hx hb hd k1 ha K
    · subst k3; subst k1; exact lv_aloadN hx hb hd ha K
    · subst k3; subst k1; exact lv_aload hx hb hd ha K
    · subst k3; exact lv_aload_nN hx hb hd k1 ha K
    · subst k3; exact lv_aload_n hx hb hd k1 ha K
  · cases h
theorem am_p1 (hx : p.tables.exec = Jvm.exec) (hb : c.code = am_b j) (hd : decode (am_b j) ce.1 = .ok (ce.2.1, ce.2.2.1)) (hk : am_k1 j n o ce = true) (hn : nL = am_ml j) (hl : lv_has lsA nL (am_lt ad ls)) (h : am_o1 o n ls st S = some (n', ls', st', S')) (kk : S' = S → ∀ lsB, lv_has lsB nL (am_lt ad ls') → W p l e R s m args below meth c H locs cells slots Q (F0 m (am_pc j n') lsB (st'.map (am_tr ad)))) : W p l e R s m args below meth c H locs cells slots Q (F0 m ce.1 lsA (st.map (am_tr ad))) := by
  obtain ⟨pc, ins, len, ws⟩ := ce
  unfold am_o1 at h
  split at h
  · rename_i v r
    obtain ⟨h1, h2⟩ := am_cnd h
    obtain ⟨h1, h9⟩ := Bool.and_eq_true_iff.mp h1
    replace h1 := am_beq h1
    unfold am_k1 at hk
    obtain ⟨hn9, hk⟩ := Bool.and_eq_true_iff.mp hk
    obtain ⟨hm9, hk⟩ := Bool.and_eq_true_iff.mp hk
    replace hn9 := am_nx_e hn9
    replace hm9 := am_blt hm9
    have hm8 : o.2.1 < nL := by omega
    dsimp only at hk hd hn9 ⊢
    split at hk <;> first | (cases hk; done) | skip
    all_goals
      obtain ⟨k1, hk⟩ := Bool.and_eq_true_iff.mp hk
      obtain ⟨k2, k3⟩ := Bool.and_eq_true_iff.mp hk
      replace k1 := am_beq k1
      replace k2 := am_beq k2
      rw [k2] at h1
      cases v <;> first | exact absurd h1 (Nat.ne_of_beq_eq_false rfl) | skip
    · replace k3 := am_beq k3; subst k3; subst k1; cases h2; rw [hn9] at kk; exact lv_istore hx hb hd hl hm8 rfl fun lsB hB => kk rfl lsB (by rw [am_lt_f1] at hB; exact hB)
    · replace k3 := am_beq k3; subst k3; cases h2; rw [hn9] at kk; exact lv_istore_n hx hb hd k1 hl hm8 rfl fun lsB hB => kk rfl lsB (by rw [am_lt_f1] at hB; exact hB)
    · obtain ⟨k3, k4⟩ := Bool.and_eq_true_iff.mp k3; replace k3 := am_beq k3; replace k4 := am_blt k4; subst k3; subst k1; cases h2; rw [hn9] at kk; exact lv_lstore hx hb hd hl (by omega) rfl fun lsB hB => kk rfl lsB (by rw [am_lt_f2] at hB; exact hB)
    · obtain ⟨k3, k4⟩ := Bool.and_eq_true_iff.mp k3; replace k3 := am_beq k3; replace k4 := am_blt k4; subst k3; cases h2; rw [hn9] at kk; exact lv_lstore_n hx hb hd k1 hl (by omega) rfl fun lsB hB => kk rfl lsB (by rw [am_lt_f2] at hB; exact hB)
    · obtain ⟨k3, k4⟩ := Bool.and_eq_true_iff.mp k3; replace k3 := am_beq k3; replace k4 := am_blt k4; subst k3; subst k1; cases h2; rw [hn9] at kk; exact lv_dstore hx hb hd hl (by omega) rfl fun lsB hB => kk rfl lsB (by rw [am_lt_f2] at hB; exact hB)
    · obtain ⟨k3, k4⟩ := Bool.and_eq_true_iff.mp k3; replace k3 := am_beq k3; replace k4 := am_blt k4; subst k3; cases h2; rw [hn9] at kk; exact lv_dstore_n hx hb hd k1 hl (by omega) rfl fun lsB hB => kk rfl lsB (by rw [am_lt_f2] at hB; exact hB)
    · replace k3 := am_beq k3; subst k3; subst k1; cases h2; rw [hn9] at kk; exact lv_astoreN hx hb hd hl hm8 rfl fun lsB hB => kk rfl lsB (by rw [am_lt_f1] at hB; exact hB)
    · replace k3 := am_beq k3; subst k3; subst k1; cases h2; rw [hn9] at kk; exact lv_astore hx hb hd hl hm8 rfl fun lsB hB => kk rfl lsB (by rw [am_lt_f1] at hB; exact hB)
    · replace k3 := am_beq k3; subst k3; cases h2; rw [hn9] at kk; exact lv_astore_nN hx hb hd k1 hl hm8 rfl fun lsB hB => kk rfl lsB (by rw [am_lt_f1] at hB; exact hB)
    · replace k3 := am_beq k3; subst k3; cases h2; rw [hn9] at kk; exact lv_astore_n hx hb hd k1 hl hm8 rfl fun lsB hB => kk rfl lsB (by rw [am_lt_f1] at hB; exact hB)
  · cases h
theorem am_p2 (hx : p.tables.exec = Jvm.exec) (hb : c.code = am_b j) (hd : decode (am_b j) ce.1 = .ok (ce.2.1, ce.2.2.1)) (hk : am_k2 j n o ce = true) (hown : s.vm.findClass (am_own j) = some m.cls) (hts : ∀ w ∈ am_T, w.before args s = true) (hZ : va_Z "java/lang/String" "COMPACT_STRINGS" "Z" (.int 1) (am_A B) s s.heap) (hS : va_S (am_A B) s.heap H locs) (hl : lv_has lsA nL (am_lt ad ls)) (h : am_o2 o n ls st S = some (n', ls', st', S')) (kk : S' = S → ∀ lsB, lv_has lsB nL (am_lt ad ls') → W p l e R s m args below meth c H locs cells slots Q (F0 m (am_pc j n') lsB (st'.map (am_tr ad)))) : W p l e R s m args below meth c H locs cells slots Q (F0 m ce.1 lsA (st.map (am_tr ad))) := by
  obtain ⟨pc, ins, len, ws⟩ := ce
  unfold am_o2 at h
  cases h
  unfold am_k2 at hk
  obtain ⟨hn, hk⟩ := Bool.and_eq_true_iff.mp hk
  replace hn := am_nx_e hn
  have K := kk rfl lsA hl
  rw [hn] at K
  dsimp only at hk hd K ⊢
  split at hk <;> first | (cases hk; done) | skip
  · obtain ⟨k1, k3⟩ := Bool.and_eq_true_iff.mp hk; replace k3 := am_beq k3; subst k3; exact lv_iconst hx hb hd (by rw [of_decide_eq_true k1]) K
  · obtain ⟨k1, k3⟩ := Bool.and_eq_true_iff.mp hk; replace k3 := am_beq k3; subst k3; exact lv_bipush hx hb hd (of_decide_eq_true k1) K
  · obtain ⟨k1, k3⟩ := Bool.and_eq_true_iff.mp hk; replace k3 := am_beq k3; subst k3; exact lv_sipush hx hb hd (of_decide_eq_true k1) K
  · obtain ⟨k1, k3⟩ := Bool.and_eq_true_iff.mp hk; replace k3 := am_beq k3; subst k3; exact lv_ldc hx hb hown (hts _ (am_w_in k1)) hd K
  · obtain ⟨k1, k3⟩ := Bool.and_eq_true_iff.mp hk; replace k3 := am_beq k3; subst k3; exact lv_ldcw hx hb hown (hts _ (am_w_in k1)) hd K
  · obtain ⟨k1, k3⟩ := Bool.and_eq_true_iff.mp hk; obtain ⟨k2, k3⟩ := Bool.and_eq_true_iff.mp k3; replace k2 := am_beq k2; subst k2; rw [of_decide_eq_true k3] at K; exact va_gets hx hb hZ hS hown (hts _ (am_w_in k1)) (fun x h => h) hd K
theorem am_p3 (hx : p.tables.exec = Jvm.exec) (hb : c.code = am_b j) (hd : decode (am_b j) ce.1 = .ok (ce.2.1, ce.2.2.1)) (hk : am_k3 j n o ce = true) (hown : s.vm.findClass (am_own j) = some m.cls) (hts : ∀ w ∈ am_T, w.before args s = true) (hl : lv_has lsA nL (am_lt ad ls)) (h : am_o3 o n ls st S = some (n', ls', st', S')) (kk : S' = S → ∀ lsB, lv_has lsB nL (am_lt ad ls') → W p l e R s m args below meth c H locs cells slots Q (F0 m (am_pc j n') lsB (st'.map (am_tr ad)))) : W p l e R s m args below meth c H locs cells slots Q (F0 m ce.1 lsA (st.map (am_tr ad))) := by
  obtain ⟨pc, ins, len, ws⟩ := ce
  unfold am_o3 at h
  cases h
  unfold am_k3 at hk
  obtain ⟨hn, hk⟩ := Bool.and_eq_true_iff.mp hk
  replace hn := am_nx_e hn
  have K := kk rfl lsA hl
  rw [hn] at K
  dsimp only at hk hd K ⊢
  split at hk <;> first | (cases hk; done) | skip
  · obtain ⟨k1, k3⟩ := Bool.and_eq_true_iff.mp hk; replace k3 := am_beq k3; subst k3; exact lv_lconst hx hb hd (of_decide_eq_true k1) K
  · obtain ⟨k1, k3⟩ := Bool.and_eq_true_iff.mp hk; replace k3 := am_beq k3; subst k3; exact lv_ldc2 hx hb hown (hts _ (am_w_in k1)) hd K
theorem am_p4 (hx : p.tables.exec = Jvm.exec) (hb : c.code = am_b j) (hd : decode (am_b j) ce.1 = .ok (ce.2.1, ce.2.2.1)) (hk : am_k4 j n ce = true) (hl : lv_has lsA nL (am_lt ad ls)) (h : am_o4 o n ls st S = some (n', ls', st', S')) (kk : S' = S → ∀ lsB, lv_has lsB nL (am_lt ad ls') → W p l e R s m args below meth c H locs cells slots Q (F0 m (am_pc j n') lsB (st'.map (am_tr ad)))) : W p l e R s m args below meth c H locs cells slots Q (F0 m ce.1 lsA (st.map (am_tr ad))) := by
  obtain ⟨pc, ins, len, ws⟩ := ce
  unfold am_o4 at h
  cases h
  unfold am_k4 at hk
  obtain ⟨hn, hk⟩ := Bool.and_eq_true_iff.mp hk
  replace hn := am_nx_e hn
  have K := kk rfl lsA hl
  rw [hn] at K
  dsimp only at hk hd K ⊢
  split at hk <;> first | (cases hk; done) | skip
  · rename_i x hd9
    obtain ⟨k1, k3⟩ := Bool.and_eq_true_iff.mp hk; replace k3 := am_beq k3; subst k3; replace k1 := am_beq k1; have e9 : x = 0 := Fin.ext k1; subst e9; exact lv_dconst0 hx hb hd K
theorem am_p5 (hx : p.tables.exec = Jvm.exec) (hb : c.code = am_b j) (hd : decode (am_b j) ce.1 = .ok (ce.2.1, ce.2.2.1)) (hk : am_k5 j n ce = true) (hl : lv_has lsA nL (am_lt ad ls)) (h : am_o5 o n ls st S = some (n', ls', st', S')) (kk : S' = S → ∀ lsB, lv_has lsB nL (am_lt ad ls') → W p l e R s m args below meth c H locs cells slots Q (F0 m (am_pc j n') lsB (st'.map (am_tr ad)))) : W p l e R s m args below meth c H locs cells slots Q (F0 m ce.1 lsA (st.map (am_tr ad))) := by
  obtain ⟨pc, ins, len, ws⟩ := ce
  unfold am_o5 at h
  cases h
  unfold am_k5 at hk
  obtain ⟨hn, hk⟩ := Bool.and_eq_true_iff.mp hk
  replace hn := am_nx_e hn
  have K := kk rfl lsA hl
  rw [hn] at K
  dsimp only at hk hd K ⊢
  split at hk <;> first | (cases hk; done) | skip
  · have k3 := am_beq hk; subst k3; exact lv_null hx hb hd K
theorem am_p8 (hx : p.tables.exec = Jvm.exec) (hb : c.code = am_b j) (hd : decode (am_b j) ce.1 = .ok (ce.2.1, ce.2.2.1)) (hk : am_k8 j n o ce = true) (hl : lv_has lsA nL (am_lt ad ls)) (h : am_o8 o n ls st S = some (n', ls', st', S')) (kk : S' = S → ∀ lsB, lv_has lsB nL (am_lt ad ls') → W p l e R s m args below meth c H locs cells slots Q (F0 m (am_pc j n') lsB (st'.map (am_tr ad)))) : W p l e R s m args below meth c H locs cells slots Q (F0 m ce.1 lsA (st.map (am_tr ad))) := by
  obtain ⟨pc, ins, len, ws⟩ := ce
  unfold am_o8 at h
  split at h
  · rename_i y x r
    split at h
    · rename_i z hz
      cases h
      unfold am_k8 at hk
      obtain ⟨hn, hk⟩ := Bool.and_eq_true_iff.mp hk
      obtain ⟨k3, hk⟩ := Bool.and_eq_true_iff.mp hk
      replace hn := am_nx_e hn
      replace k3 := am_beq k3
      have K := kk rfl lsA hl
      rw [hn] at K
      dsimp only at hk hd K k3 ⊢
      split at hk <;> first | (cases hk; done) | skip
      all_goals subst_vars
      all_goals
        have k1 := am_beq hk
        rw [k1] at hz
      · cases hz; exact lv_iadd hx hb hd K
      · cases hz; exact lv_isub hx hb hd K
      · cases hz; exact lv_imul hx hb hd K
      · dsimp only [am_ib] at hz
        cases hy : decide (y = 0) with
        | true => rw [hy] at hz; cases hz
        | false => rw [hy] at hz; cases hz; exact lv_idiv hx hb hd (of_decide_eq_false hy) K
      · dsimp only [am_ib] at hz
        cases hy : decide (y = 0) with
        | true => rw [hy] at hz; cases hz
        | false => rw [hy] at hz; cases hz; exact lv_irem hx hb hd (of_decide_eq_false hy) K
      · cases hz; exact lv_iand hx hb hd K
      · cases hz; exact lv_ior hx hb hd K
      · cases hz; exact lv_ishl hx hb hd K
      · cases hz; exact lv_ishr hx hb hd K
      · cases hz; exact lv_iushr hx hb hd rfl K
    · cases h
  · cases h
theorem am_p10 (hx : p.tables.exec = Jvm.exec) (hb : c.code = am_b j) (hd : decode (am_b j) ce.1 = .ok (ce.2.1, ce.2.2.1)) (hk : am_k10 j n o ce = true) (hl : lv_has lsA nL (am_lt ad ls)) (h : am_o10 o n ls st S = some (n', ls', st', S')) (kk : S' = S → ∀ lsB, lv_has lsB nL (am_lt ad ls') → W p l e R s m args below meth c H locs cells slots Q (F0 m (am_pc j n') lsB (st'.map (am_tr ad)))) : W p l e R s m args below meth c H locs cells slots Q (F0 m ce.1 lsA (st.map (am_tr ad))) := by
  obtain ⟨pc, ins, len, ws⟩ := ce
  unfold am_o10 at h
  split at h
  · rename_i y x r
    split at h
    · rename_i z hz
      cases h
      unfold am_k10 at hk
      obtain ⟨hn, hk⟩ := Bool.and_eq_true_iff.mp hk
      obtain ⟨k3, hk⟩ := Bool.and_eq_true_iff.mp hk
      replace hn := am_nx_e hn
      replace k3 := am_beq k3
      have K := kk rfl lsA hl
      rw [hn] at K
      dsimp only at hk hd K k3 ⊢
      split at hk <;> first | (cases hk; done) | skip
      all_goals subst_vars
      all_goals
        have k1 := am_beq hk
        rw [k1] at hz
      · cases hz; exact lv_ladd hx hb hd K
      · cases hz; exact lv_lsub hx hb hd K
      · cases hz; exact lv_lmul hx hb hd K
      · dsimp only [am_lb] at hz
        cases hy : decide (y = 0) with
        | true => rw [hy] at hz; cases hz
        | false => rw [hy] at hz; cases hz; exact lv_ldiv hx hb hd (of_decide_eq_false hy) K
      · dsimp only [am_lb] at hz
        cases hy : decide (y = 0) with
        | true => rw [hy] at hz; cases hz
        | false => rw [hy] at hz; cases hz; exact lv_lrem hx hb hd (of_decide_eq_false hy) K
      · cases hz; exact lv_land hx hb hd K
      · cases hz; exact lv_lor hx hb hd K
    · cases h
  · cases h
theorem am_p11 (hx : p.tables.exec = Jvm.exec) (hb : c.code = am_b j) (hd : decode (am_b j) ce.1 = .ok (ce.2.1, ce.2.2.1)) (hk : am_k11 j n o ce = true) (hl : lv_has lsA nL (am_lt ad ls)) (h : am_o11 o n ls st S = some (n', ls', st', S')) (kk : S' = S → ∀ lsB, lv_has lsB nL (am_lt ad ls') → W p l e R s m args below meth c H locs cells slots Q (F0 m (am_pc j n') lsB (st'.map (am_tr ad)))) : W p l e R s m args below meth c H locs cells slots Q (F0 m ce.1 lsA (st.map (am_tr ad))) := by
  obtain ⟨pc, ins, len, ws⟩ := ce
  unfold am_o11 at h
  split at h
  · rename_i y x r
    unfold am_k11 at hk
    obtain ⟨hn, hk⟩ := Bool.and_eq_true_iff.mp hk
    obtain ⟨k3, hk⟩ := Bool.and_eq_true_iff.mp hk
    replace hn := am_nx_e hn
    replace k3 := am_beq k3
    dsimp only at hk hd k3 hn ⊢
    split at hk <;> first | (cases hk; done) | skip
    all_goals subst_vars
    · have k1 := am_beq hk
      rw [k1] at h
      cases h
      have K := kk rfl lsA hl
      rw [hn] at K
      exact lv_lshl hx hb hd rfl K
    · have k1 := am_beq hk
      rw [k1] at h
      cases h
      have K := kk rfl lsA hl
      rw [hn] at K
      exact lv_lshr hx hb hd rfl K
  · cases h
theorem am_p13 (hx : p.tables.exec = Jvm.exec) (hb : c.code = am_b j) (hd : decode (am_b j) ce.1 = .ok (ce.2.1, ce.2.2.1)) (hk : am_k13 j n ce = true) (hl : lv_has lsA nL (am_lt ad ls)) (h : am_o13 o n ls st S = some (n', ls', st', S')) (kk : S' = S → ∀ lsB, lv_has lsB nL (am_lt ad ls') → W p l e R s m args below meth c H locs cells slots Q (F0 m (am_pc j n') lsB (st'.map (am_tr ad)))) : W p l e R s m args below meth c H locs cells slots Q (F0 m ce.1 lsA (st.map (am_tr ad))) := by
  obtain ⟨pc, ins, len, ws⟩ := ce
  unfold am_o13 at h
  split at h
  · rename_i y x r
    cases h
    unfold am_k13 at hk
    obtain ⟨hn, hk⟩ := Bool.and_eq_true_iff.mp hk
    obtain ⟨k3, hk⟩ := Bool.and_eq_true_iff.mp hk
    replace hn := am_nx_e hn
    replace k3 := am_beq k3
    have K := kk rfl lsA hl
    dsimp only at hk hd K k3 hn ⊢
    rw [hn] at K
    split at hk <;> first | (cases hk; done) | skip
    all_goals subst_vars
    exact W.lcmp hx hb hd K
  · cases h
theorem am_p14 (hx : p.tables.exec = Jvm.exec) (hb : c.code = am_b j) (hd : decode (am_b j) ce.1 = .ok (ce.2.1, ce.2.2.1)) (hk : am_k14 j n o ce = true) (hl : lv_has lsA nL (am_lt ad ls)) (h : am_o14 o n ls st S = some (n', ls', st', S')) (kk : S' = S → ∀ lsB, lv_has lsB nL (am_lt ad ls') → W p l e R s m args below meth c H locs cells slots Q (F0 m (am_pc j n') lsB (st'.map (am_tr ad)))) : W p l e R s m args below meth c H locs cells slots Q (F0 m ce.1 lsA (st.map (am_tr ad))) := by
  obtain ⟨pc, ins, len, ws⟩ := ce
  unfold am_o14 at h
  split at h
  · rename_i v r
    split at h
    · rename_i w hw
      cases h
      unfold am_k14 at hk
      obtain ⟨hn, hk⟩ := Bool.and_eq_true_iff.mp hk
      obtain ⟨k3, hk⟩ := Bool.and_eq_true_iff.mp hk
      replace hn := am_nx_e hn
      replace k3 := am_beq k3
      have K := kk rfl lsA hl
      rw [hn] at K
      dsimp only at hk hd K k3 ⊢
      split at hk <;> first | (cases hk; done) | skip
      all_goals subst_vars
      all_goals
        have k1 := am_beq hk
        rw [k1] at hw
        cases v <;> first | (cases hw; done) | skip
        cases hw
      · exact lv_i2l hx hb hd rfl K
      · exact lv_l2i hx hb hd rfl K
      · exact lv_i2b hx hb hd rfl K
      · exact lv_i2c hx hb hd rfl K
      · exact lv_i2d hx hb hd K
      · exact lv_ineg hx hb hd K
      · exact lv_lneg hx hb hd K
    · cases h
  · cases h
theorem am_p15 (hx : p.tables.exec = Jvm.exec) (hb : c.code = am_b j) (hd : decode (am_b j) ce.1 = .ok (ce.2.1, ce.2.2.1)) (hk : am_k15 j n ce = true) (hl : lv_has lsA nL (am_lt ad ls)) (h : am_o15 o n ls st S = some (n', ls', st', S')) (kk : S' = S → ∀ lsB, lv_has lsB nL (am_lt ad ls') → W p l e R s m args below meth c H locs cells slots Q (F0 m (am_pc j n') lsB (st'.map (am_tr ad)))) : W p l e R s m args below meth c H locs cells slots Q (F0 m ce.1 lsA (st.map (am_tr ad))) := by
  obtain ⟨pc, ins, len, ws⟩ := ce
  unfold am_o15 at h
  split at h
  · rename_i y x r
    obtain ⟨h1, h2⟩ := am_cnd h
    cases h2
    unfold am_k15 at hk
    obtain ⟨hn, hk⟩ := Bool.and_eq_true_iff.mp hk
    obtain ⟨k3, hk⟩ := Bool.and_eq_true_iff.mp hk
    replace hn := am_nx_e hn
    replace k3 := am_beq k3
    have K := kk rfl lsA hl
    rw [hn] at K
    dsimp only at hk hd K k3 ⊢
    split at hk <;> first | (cases hk; done) | skip
    all_goals subst_vars
    exact lv_ddiv hx hb hd (by unfold vf_n64; exact of_decide_eq_true h1) K
  · cases h
theorem am_p16 (hx : p.tables.exec = Jvm.exec) (hb : c.code = am_b j) (hd : decode (am_b j) ce.1 = .ok (ce.2.1, ce.2.2.1)) (hk : am_k16 j n o ce = true) (hl : lv_has lsA nL (am_lt ad ls)) (h : am_o16 o n ls st S = some (n', ls', st', S')) (kk : S' = S → ∀ lsB, lv_has lsB nL (am_lt ad ls') → W p l e R s m args below meth c H locs cells slots Q (F0 m (am_pc j n') lsB (st'.map (am_tr ad)))) : W p l e R s m args below meth c H locs cells slots Q (F0 m ce.1 lsA (st.map (am_tr ad))) := by
  obtain ⟨pc, ins, len, ws⟩ := ce
  unfold am_o16 at h
  split at h
  · rename_i y x r
    cases h
    unfold am_k16 at hk
    obtain ⟨hn, hk⟩ := Bool.and_eq_true_iff.mp hk
    obtain ⟨k3, hk⟩ := Bool.and_eq_true_iff.mp hk
    replace hn := am_nx_e hn
    replace k3 := am_beq k3
    have K := kk rfl lsA hl
    dsimp only at hk hd K k3 hn ⊢
    rw [hn] at K
    split at hk <;> first | (cases hk; done) | skip
    all_goals subst_vars
    have k1 := am_beq hk
    rw [k1] at K
    exact lv_dcmp hx hb hd K
  · cases h
theorem am_p17 (hx : p.tables.exec = Jvm.exec) (hb : c.code = am_b j) (hd : decode (am_b j) ce.1 = .ok (ce.2.1, ce.2.2.1)) (hk : am_k17 j n o ce = true) (hn : nL = am_ml j) (hl : lv_has lsA nL (am_lt ad ls)) (h : am_o17 o n ls st S = some (n', ls', st', S')) (kk : S' = S → ∀ lsB, lv_has lsB nL (am_lt ad ls') → W p l e R s m args below meth c H locs cells slots Q (F0 m (am_pc j n') lsB (st'.map (am_tr ad)))) : W p l e R s m args below meth c H locs cells slots Q (F0 m ce.1 lsA (st.map (am_tr ad))) := by
  obtain ⟨pc, ins, len, ws⟩ := ce
  unfold am_o17 at h
  split at h
  · rename_i x hv
    cases h
    unfold am_k17 at hk
    obtain ⟨hn9, hk⟩ := Bool.and_eq_true_iff.mp hk
    obtain ⟨hm9, hk⟩ := Bool.and_eq_true_iff.mp hk
    replace hn9 := am_nx_e hn9
    replace hm9 := am_blt hm9
    rw [hn9] at kk
    dsimp only at hk hd kk ⊢
    split at hk <;> first | (cases hk; done) | skip
    obtain ⟨k1, hk⟩ := Bool.and_eq_true_iff.mp hk
    obtain ⟨k2, k3⟩ := Bool.and_eq_true_iff.mp hk
    replace k1 := am_beq k1
    replace k2 := of_decide_eq_true k2
    replace k3 := am_beq k3
    subst k3; subst k1; subst k2
    have hm := am_lk_mem hv
    obtain ⟨k, hk9⟩ := List.getElem?_of_mem hm
    refine lv_iinc (k := k) hx hb hd hl (by rw [am_lt, List.getElem?_map, hk9]; rfl) rfl (by omega) rfl fun lsB hB => kk rfl lsB (by rw [am_lt_f1] at hB; exact hB)
  · cases h
theorem am_p18 (hx : p.tables.exec = Jvm.exec) (hb : c.code = am_b j) (hd : decode (am_b j) ce.1 = .ok (ce.2.1, ce.2.2.1)) (hk : am_k18 j n o ce = true) (hl : lv_has lsA nL (am_lt ad ls)) (h : am_o18 o n ls st S = some (n', ls', st', S')) (kk : S' = S → ∀ lsB, lv_has lsB nL (am_lt ad ls') → W p l e R s m args below meth c H locs cells slots Q (F0 m (am_pc j n') lsB (st'.map (am_tr ad)))) : W p l e R s m args below meth c H locs cells slots Q (F0 m ce.1 lsA (st.map (am_tr ad))) := by
  obtain ⟨pc, ins, len, ws⟩ := ce
  unfold am_o18 at h
  split at h
  · rename_i x r
    cases h
    unfold am_k18 at hk
    obtain ⟨hn, hk⟩ := Bool.and_eq_true_iff.mp hk
    obtain ⟨k3, hk⟩ := Bool.and_eq_true_iff.mp hk
    replace hn := am_nx_e hn
    replace k3 := am_beq k3
    have K := kk rfl lsA hl
    dsimp only at hk hd K k3 hn ⊢
    subst k3
    split at hk <;> first | (cases hk; done) | skip
    all_goals
      obtain ⟨k1, k2⟩ := Bool.and_eq_true_iff.mp hk
      replace k1 := am_beq k1
      replace k2 := am_tg_e k2
      rw [k1] at K
    · refine lv_if_eq hx hb hd k2 (fun q => ?_) (fun q => ?_)
      · have e : am_cn 0 x 0 = true := decide_eq_true q
        rw [e] at K; exact K
      · have e : am_cn 0 x 0 = false := decide_eq_false q
        rw [e] at K; rw [← hn]; exact K
    · refine lv_if_ne hx hb hd k2 (fun q => ?_) (fun q => ?_)
      · have e : am_cn 1 x 0 = true := by show (!decide (x = 0)) = true; rw [decide_eq_false q]; rfl
        rw [e] at K; exact K
      · have e : am_cn 1 x 0 = false := by show (!decide (x = 0)) = false; rw [decide_eq_true q]; rfl
        rw [e] at K; rw [← hn]; exact K
    · refine lv_if_lt hx hb hd k2 (fun q => ?_) (fun q => ?_)
      · have e : am_cn 2 x 0 = true := decide_eq_true q
        rw [e] at K; exact K
      · have e : am_cn 2 x 0 = false := decide_eq_false q
        rw [e] at K; rw [← hn]; exact K
    · refine lv_if_ge hx hb hd k2 (fun q => ?_) (fun q => ?_)
      · have e : am_cn 3 x 0 = true := decide_eq_true q
        rw [e] at K; exact K
      · have e : am_cn 3 x 0 = false := decide_eq_false q
        rw [e] at K; rw [← hn]; exact K
    · refine lv_if_gt hx hb hd k2 (fun q => ?_) (fun q => ?_)
      · have e : am_cn 4 x 0 = true := decide_eq_true q
        rw [e] at K; exact K
      · have e : am_cn 4 x 0 = false := decide_eq_false q
        rw [e] at K; rw [← hn]; exact K
    · refine lv_if_le hx hb hd k2 (fun q => ?_) (fun q => ?_)
      · have e : am_cn 5 x 0 = true := decide_eq_true q
        rw [e] at K; exact K
      · have e : am_cn 5 x 0 = false := decide_eq_false q
        rw [e] at K; rw [← hn]; exact K
  · cases h
theorem am_p19 (hx : p.tables.exec = Jvm.exec) (hb : c.code = am_b j) (hd : decode (am_b j) ce.1 = .ok (ce.2.1, ce.2.2.1)) (hk : am_k19 j n o ce = true) (hl : lv_has lsA nL (am_lt ad ls)) (h : am_o19 o n ls st S = some (n', ls', st', S')) (kk : S' = S → ∀ lsB, lv_has lsB nL (am_lt ad ls') → W p l e R s m args below meth c H locs cells slots Q (F0 m (am_pc j n') lsB (st'.map (am_tr ad)))) : W p l e R s m args below meth c H locs cells slots Q (F0 m ce.1 lsA (st.map (am_tr ad))) := by
  obtain ⟨pc, ins, len, ws⟩ := ce
  unfold am_o19 at h
  split at h
  · rename_i y x r
    cases h
    unfold am_k19 at hk
    obtain ⟨hn, hk⟩ := Bool.and_eq_true_iff.mp hk
    obtain ⟨k3, hk⟩ := Bool.and_eq_true_iff.mp hk
    replace hn := am_nx_e hn
    replace k3 := am_beq k3
    have K := kk rfl lsA hl
    dsimp only at hk hd K k3 hn ⊢
    subst k3
    split at hk <;> first | (cases hk; done) | skip
    all_goals
      obtain ⟨k1, k2⟩ := Bool.and_eq_true_iff.mp hk
      replace k1 := am_beq k1
      replace k2 := am_tg_e k2
      rw [k1] at K
    · refine lv_icmp_eq hx hb hd k2 (fun q => ?_) (fun q => ?_)
      · have e : am_cn 0 x y = true := decide_eq_true q
        rw [e] at K; exact K
      · have e : am_cn 0 x y = false := decide_eq_false q
        rw [e] at K; rw [← hn]; exact K
    · refine lv_icmp_ne hx hb hd k2 (fun q => ?_) (fun q => ?_)
      · have e : am_cn 1 x y = true := by show (!decide (x = y)) = true; rw [decide_eq_false q]; rfl
        rw [e] at K; exact K
      · have e : am_cn 1 x y = false := by show (!decide (x = y)) = false; rw [decide_eq_true q]; rfl
        rw [e] at K; rw [← hn]; exact K
    · refine lv_icmp_lt hx hb hd k2 (fun q => ?_) (fun q => ?_)
      · have e : am_cn 2 x y = true := decide_eq_true q
        rw [e] at K; exact K
      · have e : am_cn 2 x y = false := decide_eq_false q
        rw [e] at K; rw [← hn]; exact K
    · refine lv_icmp_ge hx hb hd k2 (fun q => ?_) (fun q => ?_)
      · have e : am_cn 3 x y = true := decide_eq_true q
        rw [e] at K; exact K
      · have e : am_cn 3 x y = false := decide_eq_false q
        rw [e] at K; rw [← hn]; exact K
    · refine lv_icmp_gt hx hb hd k2 (fun q => ?_) (fun q => ?_)
      · have e : am_cn 4 x y = true := decide_eq_true q
        rw [e] at K; exact K
      · have e : am_cn 4 x y = false := decide_eq_false q
        rw [e] at K; rw [← hn]; exact K
    · refine lv_icmp_le hx hb hd k2 (fun q => ?_) (fun q => ?_)
      · have e : am_cn 5 x y = true := decide_eq_true q
        rw [e] at K; exact K
      · have e : am_cn 5 x y = false := decide_eq_false q
        rw [e] at K; rw [← hn]; exact K
  · cases h
theorem am_p20 (hx : p.tables.exec = Jvm.exec) (hb : c.code = am_b j) (hd : decode (am_b j) ce.1 = .ok (ce.2.1, ce.2.2.1)) (hk : am_k20 j n o ce = true) (hl : lv_has lsA nL (am_lt ad ls)) (h : am_o20 o n ls st S = some (n', ls', st', S')) (kk : S' = S → ∀ lsB, lv_has lsB nL (am_lt ad ls') → W p l e R s m args below meth c H locs cells slots Q (F0 m (am_pc j n') lsB (st'.map (am_tr ad)))) : W p l e R s m args below meth c H locs cells slots Q (F0 m ce.1 lsA (st.map (am_tr ad))) := by
  obtain ⟨pc, ins, len, ws⟩ := ce
  unfold am_o20 at h
  split at h
  · rename_i r
    cases h
    unfold am_k20 at hk
    obtain ⟨hn, hk⟩ := Bool.and_eq_true_iff.mp hk
    obtain ⟨k3, hk⟩ := Bool.and_eq_true_iff.mp hk
    replace hn := am_nx_e hn
    replace k3 := am_beq k3
    have K := kk rfl lsA hl
    dsimp only at hk hd K k3 hn ⊢
    subst k3
    split at hk <;> first | (cases hk; done) | skip
    all_goals
      obtain ⟨k1, k2⟩ := Bool.and_eq_true_iff.mp hk
      replace k1 := am_beq k1
      replace k2 := am_tg_e k2
      rw [k1] at K
    · exact lv_ifnullN hx hb hd k2 K
    · refine lv_ifnonnullN hx hb hd ?_
      rw [← hn]; exact K
  · rename_i a r
    cases h
    unfold am_k20 at hk
    obtain ⟨hn, hk⟩ := Bool.and_eq_true_iff.mp hk
    obtain ⟨k3, hk⟩ := Bool.and_eq_true_iff.mp hk
    replace hn := am_nx_e hn
    replace k3 := am_beq k3
    have K := kk rfl lsA hl
    dsimp only at hk hd K k3 hn ⊢
    subst k3
    split at hk <;> first | (cases hk; done) | skip
    all_goals
      obtain ⟨k1, k2⟩ := Bool.and_eq_true_iff.mp hk
      replace k1 := am_beq k1
      replace k2 := am_tg_e k2
      rw [k1] at K
    · refine lv_ifnull hx hb hd ?_
      rw [← hn]; exact K
    · exact lv_ifnonnull hx hb hd k2 K
  · cases h
theorem am_p22 (hx : p.tables.exec = Jvm.exec) (hb : c.code = am_b j) (hd : decode (am_b j) ce.1 = .ok (ce.2.1, ce.2.2.1)) (hk : am_k22 j o ce = true) (hl : lv_has lsA nL (am_lt ad ls)) (h : am_o22 o n ls st S = some (n', ls', st', S')) (kk : S' = S → ∀ lsB, lv_has lsB nL (am_lt ad ls') → W p l e R s m args below meth c H locs cells slots Q (F0 m (am_pc j n') lsB (st'.map (am_tr ad)))) : W p l e R s m args below meth c H locs cells slots Q (F0 m ce.1 lsA (st.map (am_tr ad))) := by
  obtain ⟨pc, ins, len, ws⟩ := ce
  unfold am_o22 at h
  cases h
  unfold am_k22 at hk
  have K := kk rfl lsA hl
  dsimp only at hk hd K ⊢
  split at hk <;> first | (cases hk; done) | skip
  obtain ⟨k2, k3⟩ := Bool.and_eq_true_iff.mp hk
  replace k3 := am_beq k3
  subst k3
  exact lv_goto hx hb hd (am_tg_e k2) K
theorem am_swt_in {j : Nat} {ce : AmE} : ∀ {tb : List (Int × Nat)} {offs : List Int} {lo x : Int} {d : Nat}, am_swt j ce tb offs lo = true → lo ≤ x → x < lo + (offs.length : Int) → ∃ off : Int, offs[(x - lo).toNat]? = some off ∧ (ce.1 : Int) + off = (am_pc j (am_sw tb x d) : Int) := by
  intro tb
  induction tb with
  | nil =>
    intro offs lo x d h h1 h2
    cases offs with
    | nil => simp at h2; omega
    | cons f l => cases h
  | cons q l ih =>
    intro offs lo x d h h1 h2
    cases offs with
    | nil => cases h
    | cons f l2 =>
      unfold am_swt at h
      obtain ⟨k1, h⟩ := Bool.and_eq_true_iff.mp h
      obtain ⟨k2, h⟩ := Bool.and_eq_true_iff.mp h
      replace k1 := of_decide_eq_true k1
      by_cases e : x = lo
      · refine ⟨f, ?_, ?_⟩
        · rw [e]; simp
        · unfold am_sw
          rw [k1, e, decide_eq_true rfl]
          exact am_tg_e k2
      · have h2' : x < lo + 1 + (l2.length : Int) := by simp only [List.length_cons] at h2; omega
        obtain ⟨off, g1, g2⟩ := ih (d := d) h (by omega) h2'
        refine ⟨off, ?_, ?_⟩
        · rw [show (x - lo).toNat = (x - (lo + 1)).toNat + 1 by omega]
          exact g1
        · unfold am_sw
          rw [k1, decide_eq_false (fun q => e q.symm)]
          exact g2
theorem am_swt_out {j : Nat} {ce : AmE} : ∀ {tb : List (Int × Nat)} {offs : List Int} {lo x : Int} {d : Nat}, am_swt j ce tb offs lo = true → (x < lo ∨ lo + (offs.length : Int) ≤ x) → am_sw tb x d = d := by
  intro tb
  induction tb with
  | nil => intro offs lo x d h h1; rfl
  | cons q l ih =>
    intro offs lo x d h h1
    cases offs with
    | nil => cases h
    | cons f l2 =>
      unfold am_swt at h
      obtain ⟨k1, h⟩ := Bool.and_eq_true_iff.mp h
      obtain ⟨k2, h⟩ := Bool.and_eq_true_iff.mp h
      replace k1 := of_decide_eq_true k1
      have h1' : x < lo ∨ lo + 1 + (l2.length : Int) ≤ x := by simp only [List.length_cons] at h1; omega
      unfold am_sw
      rw [k1, decide_eq_false (by omega)]
      exact ih h (by omega)
theorem am_swl_e {j : Nat} {ce : AmE} {d : Int} {t : Nat} (hd : (ce.1 : Int) + d = (am_pc j t : Int)) : ∀ {tb : List (Int × Nat)} {ps : List (Int × Int)} {x : Int}, am_swl j ce tb ps = true → (ce.1 : Int) + Op.lookupswitch.offset ps d x = (am_pc j (am_sw tb x t) : Int) := by
  intro tb
  induction tb with
  | nil =>
    intro ps x h
    cases ps with
    | nil => exact hd
    | cons f l => cases h
  | cons q l ih =>
    intro ps x h
    cases ps with
    | nil => cases h
    | cons f l2 =>
      obtain ⟨f1, f2⟩ := f
      unfold am_swl at h
      obtain ⟨k1, h8⟩ := Bool.and_eq_true_iff.mp h
      obtain ⟨k2, h9⟩ := Bool.and_eq_true_iff.mp h8
      replace k1 := of_decide_eq_true k1
      rw [Op.lookupswitch.offset_cons]
      unfold am_sw
      by_cases e : q.1 = x
      · rw [decide_eq_true e]
        dsimp only at k1 k2
        simp only [cond_true]
        rw [if_pos (by rw [← k1]; exact e)]
        exact am_tg_e k2
      · rw [decide_eq_false e]
        dsimp only at k1
        simp only [cond_false]
        rw [if_neg (by rw [← k1]; exact e)]
        exact ih h9
theorem am_p23 (hx : p.tables.exec = Jvm.exec) (hb : c.code = am_b j) (hd : decode (am_b j) ce.1 = .ok (ce.2.1, ce.2.2.1)) (hk : am_k23 j o ce = true) (hl : lv_has lsA nL (am_lt ad ls)) (h : am_o23 o n ls st S = some (n', ls', st', S')) (kk : S' = S → ∀ lsB, lv_has lsB nL (am_lt ad ls') → W p l e R s m args below meth c H locs cells slots Q (F0 m (am_pc j n') lsB (st'.map (am_tr ad)))) : W p l e R s m args below meth c H locs cells slots Q (F0 m ce.1 lsA (st.map (am_tr ad))) := by
  obtain ⟨pc, ins, len, ws⟩ := ce
  unfold am_o23 at h
  split at h
  · rename_i x r
    cases h
    unfold am_k23 at hk
    have K := kk rfl lsA hl
    dsimp only at hk hd K ⊢
    split at hk <;> first | (cases hk; done) | skip
    · rename_i d lo hi offs
      obtain ⟨k1, hk⟩ := Bool.and_eq_true_iff.mp hk
      obtain ⟨k2, k3⟩ := Bool.and_eq_true_iff.mp hk
      replace k1 := am_tg_e k1
      replace k2 := of_decide_eq_true k2
      by_cases q : x.toInt < lo ∨ hi < x.toInt
      · have e := am_swt_out (d := o.2.1) k3 (x := x.toInt) (by rw [Array.length_toList]; omega)
        rw [e] at K
        exact lv_tableOut hx hb hd q k1 K
      · obtain ⟨off, g1, g2⟩ := am_swt_in (d := o.2.1) k3 (x := x.toInt) (by omega) (by rw [Array.length_toList]; omega)
        exact lv_tableIn hx hb hd (by omega) (by omega) (by rw [← Array.getElem?_toList]; exact g1) g2 K
    · rename_i d ps
      obtain ⟨k1, hk⟩ := Bool.and_eq_true_iff.mp hk
      obtain ⟨k2, k3⟩ := Bool.and_eq_true_iff.mp hk
      replace k1 := am_tg_e k1
      exact lv_lookup hx hb hd (of_decide_eq_true k2) rfl (am_swl_e k1 k3) K
  · cases h
theorem am_p26 (hx : p.tables.exec = Jvm.exec) (hb : c.code = am_b j) (hd : decode (am_b j) ce.1 = .ok (ce.2.1, ce.2.2.1)) (hk : am_k26 j n ce = true) (hl : lv_has lsA nL (am_lt ad ls)) (h : am_o26 o n ls st S = some (n', ls', st', S')) (kk : S' = S → ∀ lsB, lv_has lsB nL (am_lt ad ls') → W p l e R s m args below meth c H locs cells slots Q (F0 m (am_pc j n') lsB (st'.map (am_tr ad)))) : W p l e R s m args below meth c H locs cells slots Q (F0 m ce.1 lsA (st.map (am_tr ad))) := by
  obtain ⟨pc, ins, len, ws⟩ := ce
  unfold am_o26 at h
  split at h
  · rename_i v r
    obtain ⟨h1, h2⟩ := am_cnd h
    cases h2
    unfold am_k26 at hk
    obtain ⟨hn, hk⟩ := Bool.and_eq_true_iff.mp hk
    obtain ⟨k3, hk⟩ := Bool.and_eq_true_iff.mp hk
    replace hn := am_nx_e hn
    replace k3 := am_beq k3
    have K := kk rfl lsA hl
    rw [hn] at K
    dsimp only at hk hd K k3 ⊢
    split at hk <;> first | (cases hk; done) | skip
    all_goals subst_vars
    exact lv_dup hx hb hd (by rw [am_tr_cat]; exact am_beq h1) K
  · cases h
theorem am_p39 (hx : p.tables.exec = Jvm.exec) (hb : c.code = am_b j) (hd : decode (am_b j) ce.1 = .ok (ce.2.1, ce.2.2.1)) (hk : am_k39 j n ce = true) (hl : lv_has lsA nL (am_lt ad ls)) (h : am_o39 o n ls st S = some (n', ls', st', S')) (kk : S' = S → ∀ lsB, lv_has lsB nL (am_lt ad ls') → W p l e R s m args below meth c H locs cells slots Q (F0 m (am_pc j n') lsB (st'.map (am_tr ad)))) : W p l e R s m args below meth c H locs cells slots Q (F0 m ce.1 lsA (st.map (am_tr ad))) := by
  obtain ⟨pc, ins, len, ws⟩ := ce
  unfold am_o39 at h
  split at h
  · rename_i v w r
    obtain ⟨h1, h2⟩ := am_cnd h
    cases h2
    unfold am_k39 at hk
    obtain ⟨hn, hk⟩ := Bool.and_eq_true_iff.mp hk
    obtain ⟨k3, hk⟩ := Bool.and_eq_true_iff.mp hk
    replace hn := am_nx_e hn
    replace k3 := am_beq k3
    have K := kk rfl lsA hl
    rw [hn] at K
    dsimp only at hk hd K k3 ⊢
    split at hk <;> first | (cases hk; done) | skip
    all_goals subst_vars
    obtain ⟨g1, g2⟩ := Bool.and_eq_true_iff.mp h1
    exact lv_dup2_11 hx hb hd (by rw [am_tr_cat]; exact am_beq g1) (by rw [am_tr_cat]; exact am_beq g2) K
  · cases h
theorem am_p27 (hx : p.tables.exec = Jvm.exec) (hb : c.code = am_b j) (hd : decode (am_b j) ce.1 = .ok (ce.2.1, ce.2.2.1)) (hk : am_k27 j n o ce = true) (hl : lv_has lsA nL (am_lt ad ls)) (h : am_o27 o n ls st S = some (n', ls', st', S')) (kk : S' = S → ∀ lsB, lv_has lsB nL (am_lt ad ls') → W p l e R s m args below meth c H locs cells slots Q (F0 m (am_pc j n') lsB (st'.map (am_tr ad)))) : W p l e R s m args below meth c H locs cells slots Q (F0 m ce.1 lsA (st.map (am_tr ad))) := by
  obtain ⟨pc, ins, len, ws⟩ := ce
  unfold am_o27 at h
  split at h
  · rename_i v r
    obtain ⟨h1, h2⟩ := am_cnd h
    cases h2
    unfold am_k27 at hk
    obtain ⟨hn, hk⟩ := Bool.and_eq_true_iff.mp hk
    obtain ⟨k3, hk⟩ := Bool.and_eq_true_iff.mp hk
    replace hn := am_nx_e hn
    replace k3 := am_beq k3
    have K := kk rfl lsA hl
    rw [hn] at K
    dsimp only at hk hd K k3 ⊢
    split at hk <;> first | (cases hk; done) | skip
    · subst_vars
      rw [am_beq hk] at h1
      exact lv_pop hx hb hd (by rw [am_tr_cat]; exact am_beq h1) K
    · subst_vars
      rw [am_beq hk] at h1
      exact lv_pop2_2 hx hb hd (by rw [am_tr_cat]; exact am_beq h1) K
  · cases h
end AmPure
