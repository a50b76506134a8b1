/-! CALLS AND ENDS: the machine does what a run of the small machine tells. -/
def am_tX (x : Nat) : String := am_xn.getD x ""
set_option maxRecDepth 100000 in
theorem am_pc0s : (List.range 164).all (fun j => Nat.beq (am_pc j 0) 0) = true := by decide +kernel
theorem am_pc0 {j : Nat} (hj : j < 164) : am_pc j 0 = 0 := am_beq (List.all_eq_true.mp am_pc0s j (List.mem_range.mpr hj))
set_option maxRecDepth 100000 in
theorem am_inis : (List.range 164).all (fun j => !(decide ((am_y j).name = "<init>")) || !(Nat.beq (am_P.2.1 j).1 1)) = true := by decide +kernel
/-- a call of the small machine wants room for the arguments -/
def am_okc (j : Nat) (as rest : List Value) (S : AmS) : Bool := am_ok (am_P.2.1 j) as rest S && Nat.ble (as.map fun v => v.category).sum (am_ml j)
def am_fin (o : AmIns) (st : List Value) (S : AmS) : Option (AmO × AmS) := cond (Nat.beq o.1 41) (am_ends o st S) (cond (Nat.beq o.1 42) (am_thr o st S) none)
def am_go : Nat → Nat → Nat → Nat → AmL → List Value → AmS → Option (AmO × AmS)
  | 0, _, _, _, _, _, _ => none
  | f + 1, d, j, n, ls, st, S => match (am_P.1 j)[n]? with
    | none => none
    | some o => cond (Nat.beq o.1 40)
      (match d with
      | 0 => none
      | d' + 1 => cond (am_okc o.2.1 (st.take o.2.2.1).reverse (st.drop o.2.2.1) S)
        (match am_go f d' o.2.1 0 (lv_args 0 (st.take o.2.2.1).reverse) [] S with
        | none => none
        | some (.inl none, S1) => am_go f d j (n + 1) ls (st.drop o.2.2.1) S1
        | some (.inl (some v), S1) => am_go f d j (n + 1) ls (v :: st.drop o.2.2.1) S1
        | some (.inr (E, a), S1) => cond (decide (o.2.2.2.1 = 0)) (match am_hd (am_P.2.1 j).2.2 n E with
          | some h => am_go f d j h ls [.ref a] S1
          | none => none) none) none)
      (cond (Nat.beq o.1 41 || Nat.beq o.1 42) (am_fin o st S)
        (match am_nxt o n ls st S am_fk with
        | some (n', ls', st', S') => am_go f d j n' ls' st' S'
        | none => none))
def am_xS (S : AmS) : AmS := (am_upI S.1 S.2.2.1 (0, 0), am_newM S.2.1 S.2.2.1 (fun _ => .null), S.2.2.1 + 1, S.2.2.2.1 + 1, S.2.2.2.2 + 6)
theorem am_fin_mo {o : AmIns} {st : List Value} {S S' : AmS} {r : AmO} (h : am_fin o st S = some (r, S')) : am_Mo S S' := by
  unfold am_fin at h
  cases h1 : Nat.beq o.1 41 with
  | true =>
    rw [h1] at h
    simp only [cond_true] at h
    unfold am_ends at h
    split at h
    · obtain ⟨-, h2⟩ := am_cnd h; cases h2; exact am_Mo.rf _
    · obtain ⟨-, h2⟩ := am_cnd h; cases h2; exact am_Mo.rf _
    · cases h
  | false =>
    rw [h1] at h
    simp only [cond_false] at h
    obtain ⟨-, h2⟩ := am_cnd h
    unfold am_thr at h2
    cases h2
theorem am_go_mo : ∀ (f d j n : Nat) (ls : AmL) (st : List Value) (S : AmS) (r : AmO) (S' : AmS), am_go f d j n ls st S = some (r, S') → am_Mo S S' := by
  intro f
  induction f with
  | zero => intro d j n ls st S r S' h; cases h
  | succ f ih =>
    intro d j n ls st S r S' h
    unfold am_go at h
    split at h
    · cases h
    · rename_i o ho
      cases h40 : Nat.beq o.1 40 with
      | true =>
        rw [h40] at h
        simp only [cond_true] at h
        cases d with
        | zero => cases h
        | succ d' =>
          obtain ⟨-, h⟩ := am_cnd h
          split at h
          · cases h
          · rename_i S1 hg
            exact (ih _ _ _ _ _ _ _ _ hg).tr (ih _ _ _ _ _ _ _ _ h)
          · rename_i v S1 hg
            exact (ih _ _ _ _ _ _ _ _ hg).tr (ih _ _ _ _ _ _ _ _ h)
          · rename_i E a S1 hg
            obtain ⟨-, h⟩ := am_cnd h
            split at h
            · exact (ih _ _ _ _ _ _ _ _ hg).tr (ih _ _ _ _ _ _ _ _ h)
            · cases h
      | false =>
        rw [h40] at h
        simp only [cond_false] at h
        cases h41 : (Nat.beq o.1 41 || Nat.beq o.1 42) with
        | true =>
          rw [h41] at h
          exact am_fin_mo h
        | false =>
          rw [h41] at h
          simp only [cond_false] at h
          split at h
          · rename_i n' ls' st' S1 hn
            exact (am_nxt_w hn).1.tr (ih _ _ _ _ _ _ _ _ h)
          · cases h
/-! what is there at the start stays, over any run -/
theorem am_N_warm {s U : State} {w : Cond} (hW : s.WarmedH U.vm) (hw : w ∈ am_N) (h : va_Nw w s) : va_Nw w U := by
  have hi := (List.mem_filter.mp hw).2
  cases w <;> first | exact va_Nw.warmM hW h | exact va_Nw.warmF hW h | exact Bool.noConfusion (show false = true from hi)
theorem am_E.go {D : va_G} {B L : Nat} {xs : Nat → Int32} {ax : Nat → Nat} {s U : State} {Hh H : Heap} (h : am_E D B L xs ax s Hh) (hW : s.WarmedH U.vm) (hz : Hh.size ≤ H.size) (hq : ∀ a : Nat, a < Hh.size → ¬ am_A B a → H[a]? = Hh[a]?) : am_E D B L xs ax U H := by
  obtain ⟨h1, h2, h3, h4, h5, h6, h7, h8, h14⟩ := h
  have hvm := hW.alike
  refine ⟨h1.moved hvm, fun w hw => am_N_warm hW hw (h2 w hw), h3.moved hvm, fun k hk ha hb => ?_, fun k hk ha => ?_, fun i hi => (h6 i hi).warm hW, (h7.kept hq).moved hvm, (h8.kept hq).moved hvm, Nat.le_trans h14 hz⟩
  · obtain ⟨a1, a2⟩ := h4 k hk ha hb
    exact ⟨a1, (a2.kept (hq _ (Nat.lt_of_lt_of_le a1 h14) (fun z => absurd a1 (Nat.not_lt.mpr z)))).moved hvm⟩
  · obtain ⟨a1, a2, a3⟩ := h5 k hk ha
    exact ⟨(a1.kept hq).moved hvm, (a2.kept hq).moved hvm, (a3.kept hq).moved hvm⟩
theorem am_Rp.kept {D : va_G} {B L : Nat} {xs : Nat → Int32} {ax : Nat → Nat} {U : State} {ad : Nat → Nat} {S : AmS} {H H1 : Heap} (h : am_Rp D B L xs ax U ad S H) (hz : H.size ≤ H1.size) (ho : ∀ q, q < H.size → H1[q]? = H[q]?) : am_Rp D B L xs ax U ad S H1 := by
  obtain ⟨h1, h2, h3, h4, h5, h6⟩ := h
  refine ⟨h1, Nat.le_trans h2 hz, h3, fun k hk => ⟨(h4 k hk).1, fun z => ?_⟩, h5, h6⟩
  obtain ⟨a1, a2, a3⟩ := (h4 k hk).2 z
  exact ⟨a1, Nat.lt_of_lt_of_le a2 hz, a3.kept (ho _ a2)⟩
theorem am_tr_eq {ad ad2 : Nat → Nat} {t : Nat} {v : Value} (h1 : ∀ k, k < t → ad2 k = ad k) (h2 : ∀ k, am_EXT ≤ k → ad2 k = ad k) (hv : am_wf t v) : am_tr ad2 v = am_tr ad v := by
  cases v with
  | ref k =>
    show Value.ref (ad2 k) = Value.ref (ad k)
    rcases hv k rfl with h | h
    · rw [h1 k h]
    · rw [h2 k h]
  | _ => rfl
theorem am_nr_wf {t : Nat} {w : Value} (h : ∀ a : Nat → Nat, am_tr a w = w) : am_wf t w := by
  intro k hk
  subst hk
  have e : @Eq Nat (k + 1) k := Value.ref.inj (h (fun z => z + 1))
  omega
theorem am_fit_nr {k : Nat} {v : Value} (h : am_fit k v = true) (h3 : Nat.beq k 3 = false) : ∀ a : Nat → Nat, am_tr a v = v := by
  intro a
  cases v with
  | ref q =>
    unfold am_fit at h
    split at h <;> first | (cases h3; done) | (rename_i e; cases e; done) | (cases h; done) | rfl
  | _ => rfl
def am_rm (d mc ms : Nat) : Room := { frames := 10 + d, cells := mc, slots := ms, locals := 200 + 60 * d }
def am_wsC (j : Nat) : List Cond := Cond.code (am_y j) (am_b j) (am_ml j) (am_rt j) :: am_T
def am_wsH (j : Nat) : List Cond := Cond.codeWith (am_y j) (am_b j) (am_ml j) (am_rt j) (am_hh j) :: am_T
def am_Pc (D : va_G) (B L : Nat) (xs : Nat → Int32) (ax : Nat → Nat) (ad : Nat → Nat) (S : AmS) (as : List Value) : Array Value → State → Prop := va_Pc (as.map (am_tr ad)) (fun U => am_E D B L xs ax U U.heap ∧ am_Rp D B L xs ax U ad S U.heap)
def am_Qc (D : va_G) (B L : Nat) (xs : Nat → Int32) (ax ad0 : Nat → Nat) (t0 : Nat) (r : AmO) (S' : AmS) : Array Value → State → Outcome → State → Prop := fun _ st oc t =>
  (∃ v, r = .inl v ∧ oc = .returned v ∧ ∀ w, v = some w → ∀ a : Nat → Nat, am_tr a w = w) ∧ (∃ u : Nat → Nat, (∀ k, k < t0 → u k = ad0 k) ∧ am_Rp D B L xs ax t u S' t.heap) ∧ va_F (am_A B) st t
def am_XC (D : va_G) (B L : Nat) (xs : Nat → Int32) (ax ad0 : Nat → Nat) (t0 : Nat) (r : AmO) (S' : AmS) : String → State → State → Prop := fun E st t =>
  (∃ q : Nat × Nat, r = .inr q ∧ E = am_tX q.1 ∧ q.1 < 3 ∧ ∃ (u : Nat → Nat) (S1 : AmS), (∀ k, k < t0 → u k = ad0 k) ∧ t0 ≤ S1.2.2.1 ∧ am_Rp D B L xs ax t u S1 t.heap ∧ q.2 = S1.2.2.1 ∧ S' = am_xS S1 ∧ S1.2.2.1 < am_EXT) ∧ va_F (am_A B) st t
theorem am_Pc_blind {D : va_G} {B L : Nat} {xs : Nat → Int32} {ax ad : Nat → Nat} {S : AmS} {as : List Value} : FrameBlind (am_Pc D B L xs ax ad S as) := by
  intro a U g mk h
  obtain ⟨h1, h2, h3⟩ := h
  exact ⟨h1, h2.go (show U.WarmedH U.vm from State.WarmedH.refl U) (Nat.le_refl _) (fun _ _ _ => rfl), h3.moved (State.WarmedH.refl U).alike⟩
theorem am_lt_args (ad : Nat → Nat) : ∀ (as : List Value) (i : Nat), lv_args i (as.map (am_tr ad)) = am_lt ad (lv_args i as) := by
  intro as
  induction as with
  | nil => intro i; rfl
  | cons v as ih =>
    intro i
    show (i, am_tr ad v) :: lv_args (if (am_tr ad v).category = 2 then i + 2 else i + 1) (as.map (am_tr ad)) = (i, am_tr ad v) :: am_lt ad (lv_args (if v.category = 2 then i + 2 else i + 1) as)
    rw [am_tr_cat, ih]
theorem am_args_wf {t : Nat} : ∀ {as : List Value} {i : Nat}, (∀ v ∈ as, am_wf t v) → ∀ q ∈ lv_args i as, am_wf t q.2 := by
  intro as
  induction as with
  | nil => intro i _ q hq; cases hq
  | cons v as ih =>
    intro i h q hq
    rcases List.mem_cons.mp (show q ∈ (i, v) :: lv_args (if v.category = 2 then i + 2 else i + 1) as from hq) with rfl | hq
    · exact h v List.mem_cons_self
    · exact ih (fun z hz => h z (List.mem_cons_of_mem _ hz)) q hq
theorem am_sl_len : ∀ (vs : List Value), (lg_sl vs).length = (vs.map fun v => v.category).sum := by
  intro vs
  induction vs with
  | nil => rfl
  | cons v vs ih =>
    have e : lg_sl (v :: vs) = (if v.category = 2 then [.val v, .second] else [.val v]) ++ lg_sl vs := by simp [lg_sl]
    rw [e, List.length_append, ih, List.map_cons, List.sum_cons]
    congr 1
    cases v <;> rfl
theorem am_fit0 {v : Value} (h : am_fit 0 v = true) : ∃ x, v = .int x := by cases v <;> first | exact ⟨_, rfl⟩ | (cases h; done)
theorem am_fit1 {v : Value} (h : am_fit 1 v = true) : ∃ x, v = .long x := by cases v <;> first | exact ⟨_, rfl⟩ | (cases h; done)
theorem am_fit2 {v : Value} (h : am_fit 2 v = true) : ∃ x, v = .double x := by cases v <;> first | exact ⟨_, rfl⟩ | (cases h; done)
theorem am_fit9 {v : Value} (h : am_fit 9 v = true) : False := by cases v <;> cases h
theorem am_fit10 {v : Value} (h : am_fit 10 v = true) : ∃ x, v = .int x ∧ narrow .boolean (.int x) = .int x := by
  cases v with
  | int x =>
    refine ⟨x, rfl, ?_⟩
    rcases Bool.or_eq_true_iff.mp (show (decide (x = 0) || decide (x = 1)) = true from h) with z | z
    · rw [of_decide_eq_true z]; rfl
    · rw [of_decide_eq_true z]; rfl
  | _ => cases h
theorem am_fit11 {v : Value} (h : am_fit 11 v = true) : ∃ x, v = .int x ∧ narrow .byte (.int x) = .int x := by
  cases v with
  | int x =>
    refine ⟨x, rfl, ?_⟩
    show Value.int x.toInt8.toInt32 = _
    rw [of_decide_eq_true (show decide (x.toInt8.toInt32 = x) = true from h)]
  | _ => cases h
theorem am_fit12 {v : Value} (h : am_fit 12 v = true) : ∃ x, v = .int x ∧ narrow .char (.int x) = .int x := by
  cases v with
  | int x =>
    refine ⟨x, rfl, ?_⟩
    show Value.int x.toUInt32.toUInt16.toUInt32.toInt32 = _
    rw [UInt32.toUInt32_toUInt16, of_decide_eq_true (show decide ((x.toUInt32 % 65536).toInt32 = x) = true from h)]
  | _ => cases h
section AmEnds
variable {p : Program} {l : Launch} {e : Env} {R : Room} {s : State} {m : MethodId} {args : Array Value} {below : List Frame} {meth : Method} {c : Code} {H : Heap} {locs : List Loc} {cells slots : Nat}
variable {j n : Nat} {o : AmIns} {ce : AmE} {st : List Value} {S S' : AmS} {lsA : Array Slot} {ad ad0 ax : Nat → Nat} {B L t0 c0 s0 mc ms : Nat} {xs : Nat → Int32} {D : va_G} {r : AmO}
theorem am_p41 {Qc : Array Value → State → Outcome → State → Prop} {free : Addr → Prop} (hx : p.tables.exec = Jvm.exec) (hb : c.code = am_b j) (hr : meth.sig.returnType = am_rt j) (hlocks : meth.locks = false) (hd : decode (am_b j) ce.1 = .ok (ce.2.1, ce.2.2.1)) (hk : am_k41 j o ce = true) (h : am_ends o st S = some (r, S')) (hc : cells = mc) (hs : slots = ms)
    (hq : ∀ v, r = .inl v → (∀ w, v = some w → ∀ a : Nat → Nat, am_tr a w = w) → S' = S → ∀ t : State, t.heap = H → s.WarmedH t.vm → Qc args s (.returned v) t) (hf : ∀ q ∈ locs, free q.base) :
    W p l e R s m args below meth c H locs cells slots (MQ below Qc args s mc ms free) (F0 m ce.1 lsA (st.map (am_tr ad))) := by
  obtain ⟨pc, ins, len, ws⟩ := ce
  subst hc hs
  unfold am_k41 at hk
  obtain ⟨k3, hk⟩ := Bool.and_eq_true_iff.mp hk
  replace k3 := am_beq k3
  dsimp only at hk hd k3 ⊢
  subst k3
  have HK : (ins = .ireturn ∧ (am_rt j, o.2.2.1) ∈ ([(some .int, 0), (some .boolean, 10), (some .byte, 11), (some .char, 12)] : List (Option FieldType × Nat))) ∨ (ins = .lreturn ∧ (am_rt j, o.2.2.1) = (some .long, 1)) ∨ (ins = .dreturn ∧ (am_rt j, o.2.2.1) = (some .double, 2)) ∨ (ins = .return_ ∧ (am_rt j, o.2.2.1) = (none, 9)) := by
    split at hk
    · first | exact Or.inl ⟨rfl, of_decide_eq_true hk⟩ | exact Or.inl ⟨by assumption, of_decide_eq_true hk⟩
    · first | exact Or.inr (Or.inl ⟨rfl, of_decide_eq_true hk⟩) | exact Or.inr (Or.inl ⟨by assumption, of_decide_eq_true hk⟩)
    · first | exact Or.inr (Or.inr (Or.inl ⟨rfl, of_decide_eq_true hk⟩)) | exact Or.inr (Or.inr (Or.inl ⟨by assumption, of_decide_eq_true hk⟩))
    · first | exact Or.inr (Or.inr (Or.inr ⟨rfl, of_decide_eq_true hk⟩)) | exact Or.inr (Or.inr (Or.inr ⟨by assumption, of_decide_eq_true hk⟩))
    · cases hk
  unfold am_ends at h
  split at h
  · obtain ⟨h1, h2⟩ := am_cnd h
    have h1 := am_beq h1
    cases h2
    rcases HK with ⟨e9, q⟩ | ⟨e9, q⟩ | ⟨e9, q⟩ | ⟨e9, q⟩
    · rw [h1] at q
      simp at q
    · rw [h1] at q
      simp at q
    · rw [h1] at q
      simp at q
    · rw [e9] at hd
      exact W.vret hx hb (hr.trans (Prod.mk.inj q).1) (fun t ht hW => hq none rfl (fun w hw => by cases hw) rfl t ht hW) hf hd
  · rename_i v
    obtain ⟨h1, h2⟩ := am_cnd h
    obtain ⟨h1, h3⟩ := Bool.and_eq_true_iff.mp h1
    cases h2
    have h3 : Nat.beq o.2.2.1 3 = false := by
      cases hb3 : Nat.beq o.2.2.1 3 with
      | true => rw [hb3] at h3; cases h3
      | false => rfl
    have hnr := am_fit_nr h1 h3
    have hq2 := hq (some v) rfl (fun w hw => by cases hw; exact hnr) rfl
    show W p l e R s m args below meth c H locs cells slots _ (F0 m pc lsA [am_tr ad v])
    rw [hnr ad]
    rcases HK with ⟨e9, q⟩ | ⟨e9, q⟩ | ⟨e9, q⟩ | ⟨e9, q⟩
    · rw [e9] at hd
      simp only [List.mem_cons, List.not_mem_nil, or_false, Prod.mk.injEq] at q
      rcases q with ⟨q1, q2⟩ | ⟨q1, q2⟩ | ⟨q1, q2⟩ | ⟨q1, q2⟩
      · rw [q2] at h1
        obtain ⟨x, rfl⟩ := am_fit0 h1
        exact W.iret hx hb (hr.trans q1) hq2 hf hd
      · rw [q2] at h1
        obtain ⟨x, rfl, hn⟩ := am_fit10 h1
        exact W.zret hx hb (hr.trans q1) hn hq2 hf hd
      · rw [q2] at h1
        obtain ⟨x, rfl, hn⟩ := am_fit11 h1
        exact W.zret hx hb (hr.trans q1) hn hq2 hf hd
      · rw [q2] at h1
        obtain ⟨x, rfl, hn⟩ := am_fit12 h1
        exact W.zret hx hb (hr.trans q1) hn hq2 hf hd
    · rw [e9] at hd
      have q := Prod.mk.inj q
      rw [q.2] at h1
      obtain ⟨x, rfl⟩ := am_fit1 h1
      exact W.lret hx hb (hr.trans q.1) hq2 hf hd
    · rw [e9] at hd
      have q := Prod.mk.inj q
      rw [q.2] at h1
      obtain ⟨x, rfl⟩ := am_fit2 h1
      exact W.dret hx hb (hr.trans q.1) hq2 hf hd
    · have q := Prod.mk.inj q
      rw [q.2] at h1
      exact (am_fit9 h1).elim
  · cases h
end AmEnds
