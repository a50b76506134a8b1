/-! THE MACHINE'S CELLS AND THE SMALL MACHINE'S: what stands for what. D: numbers and slots of the classes; B: where the cells of this run begin; ax: where the things of the start lie; ad: where each cell lies. -/
def am_tr (ad : Nat → Nat) : Value → Value
  | .ref k => .ref (ad k)
  | v => v
def am_wf (top : Nat) (v : Value) : Prop := ∀ k : Nat, v = .ref k → k < top ∨ am_EXT ≤ k
def am_ty (t : Nat) : FieldType := match t with
  | 61 => .int
  | 62 => .long
  | 63 => .boolean
  | 64 => .byte
  | 65 => .object "java/lang/String"
  | 71 => .int
  | 74 => .byte
  | _ => .object "java/lang/String"
def am_ax (U : State) (ty : FieldType) (N : Nat) (f : Nat → Value) (a : Nat) (H : Heap) : Prop := ∃ cell : Cell, H[a]? = some cell ∧ U.isArrayOf cell ty ∧ cell.vm ≠ .unknown ∧ N ≤ cell.slots.size ∧ cell.slots.size.toInt32 = Int32.ofNat N ∧ ∀ j : Nat, j < N → cell.slots[j]? = some (f j)
/-- a cell of this run: an object of class c (tag c + 1), an array (tags 61 to 65), or nothing is said of it (tag 0) -/
def am_cl (D : va_G) (U : State) (ad : Nat → Nat) (i : Nat × Nat) (f : Nat → Value) (a : Nat) (H : Heap) : Prop :=
  (∀ c, i.1 = c + 1 → c < 11 → t_OB a (D.1 c) (am_NX c) (D.2 c) H (fun j => am_tr ad (f j))) ∧
  (61 ≤ i.1 → i.1 ≤ 65 → i.2 < 2 ^ 31 ∧ ∃ cA : ClassId, H[a]? = some (arrV cA i.2 (fun j => am_tr ad (f j))) ∧ ArrOfT U cA (am_ty i.1) ∧ va_RA U cA (am_ty i.1)) ∧
  (i.1 = 61 → ∀ j, ∃ x : Int32, f j = .int x)
def am_A (B : Nat) : Nat → Prop := fun q => B ≤ q
def am_sr (i : Nat) : String × Nat × String := am_srs.getD i ("", 0, "")
def am_dn : List String := ["java/lang/RuntimeException", "java/lang/Exception", "java/lang/Throwable"]
/-- what is there at the start, and stays -/
def am_E (D : va_G) (B L : Nat) (xs : Nat → Int32) (ax : Nat → Nat) (U : State) (Hh : Heap) : Prop :=
  va_K D vwCl [] U ∧ (∀ w ∈ am_N, va_Nw w U) ∧ va_AO "java/lang/String" U ∧
  (∀ k, am_EXT ≤ k → 71 ≤ (am_I0 L k).1 → (am_I0 L k).1 ≤ 76 → ax k < B ∧ am_ax U (am_ty (am_I0 L k).1) (am_I0 L k).2 (fun j => am_tr ax (am_M0 xs k j)) (ax k) Hh) ∧
  (∀ k, am_EXT ≤ k → (am_I0 L k).1 = 77 → va_O "java/lang/String" (ax k) (am_A B) U Hh ∧ va_OF "java/lang/String" "value" "[B" (am_tr ax (am_M0 xs k 0)) (ax k) (am_A B) U Hh ∧ va_OF "java/lang/String" "coder" "B" (am_tr ax (am_M0 xs k 1)) (ax k) (am_A B) U Hh) ∧
  (∀ i, i < am_NS → vk_R (am_sr i).1 (am_sr i).2.1 (am_sr i).2.2 (ax (am_EXT + 4 + i)) U) ∧
  va_Z "jdk/internal/util/Preconditions" "SIOOBE_FORMATTER" "Ljava/util/function/BiFunction;" (am_tr ax (am_sz xs)) (am_A B) U Hh ∧
  va_Z "java/lang/String" "COMPACT_STRINGS" "Z" (.int 1) (am_A B) U Hh ∧
  B ≤ Hh.size
/-- the cells of this run -/
def am_Rp (D : va_G) (B L : Nat) (xs : Nat → Int32) (ax : Nat → Nat) (U : State) (ad : Nat → Nat) (S : AmS) (H : Heap) : Prop :=
  S.2.2.1 ≤ am_EXT ∧ B ≤ H.size ∧
  (∀ k, am_EXT ≤ k → ad k = ax k ∧ S.1 k = am_I0 L k ∧ ∀ j, S.2.1 k j = am_M0 xs k j) ∧
  (∀ k, k < S.2.2.1 → (S.1 k).1 ≤ 65 ∧ ((S.1 k).1 ≠ 0 → B ≤ ad k ∧ ad k < H.size ∧ am_cl D U ad (S.1 k) (S.2.1 k) (ad k) H)) ∧
  (∀ i k, i < S.2.2.1 → k < S.2.2.1 → (S.1 i).1 ≠ 0 → (S.1 k).1 ≠ 0 → ad i = ad k → i = k) ∧
  (∀ k j, k < S.2.2.1 → am_wf S.2.2.1 (S.2.1 k j))
theorem am_tr_cat (ad : Nat → Nat) (v : Value) : (am_tr ad v).category = v.category := by cases v <;> rfl
theorem am_tr_sum (ad : Nat → Nat) (l : List Value) : ((l.map (am_tr ad)).map fun v => v.category).sum = (l.map fun v => v.category).sum := by
  rw [List.map_map]
  congr 1
  exact List.map_congr_left fun v _ => am_tr_cat ad v
def am_up (ad : Nat → Nat) (k q : Nat) : Nat → Nat := fun j => cond (Nat.beq j k) q (ad j)
theorem am_up_s (ad : Nat → Nat) (k q : Nat) : am_up ad k q k = q := by simp [am_up]
theorem am_beq_f {j k : Nat} (h : j ≠ k) : Nat.beq j k = false := by
  cases hb : Nat.beq j k with
  | false => rfl
  | true => exact absurd (Nat.eq_of_beq_eq_true hb) h
theorem am_beq_t (j : Nat) : Nat.beq j j = true := by
  induction j with
  | zero => rfl
  | succ n ih => exact ih
theorem am_up_n (ad : Nat → Nat) {j k : Nat} (q : Nat) (h : j ≠ k) : am_up ad k q j = ad j := by simp [am_up, am_beq_f h]
theorem am_tr_up {ad : Nat → Nat} {top q : Nat} {v : Value} (ht : top < am_EXT) (h : am_wf top v) : am_tr (am_up ad top q) v = am_tr ad v := by
  cases v with
  | ref k =>
    have hk := h k rfl
    show Value.ref (am_up ad top q k) = Value.ref (ad k)
    rw [am_up_n ad q (by omega)]
  | _ => rfl
theorem am_wf.mono {t t2 : Nat} {v : Value} (h : am_wf t v) (h2 : t ≤ t2) : am_wf t2 v := fun k hk => (h k hk).imp (fun z => by omega) id
theorem am_wf_i {t : Nat} {x : Int32} : am_wf t (.int x) := fun _ h => by cases h
theorem am_wf_l {t : Nat} {x : Int64} : am_wf t (.long x) := fun _ h => by cases h
theorem am_wf_d {t : Nat} {x : UInt64} : am_wf t (.double x) := fun _ h => by cases h
theorem am_wf_n {t : Nat} : am_wf t .null := fun _ h => by cases h
theorem am_wf_dv {t k : Nat} : am_wf t (am_dv k) := by
  unfold am_dv
  split
  · exact am_wf_l
  · exact am_wf_d
  · exact am_wf_n
  · exact am_wf_i
theorem am_cl.kept {D : va_G} {U : State} {ad : Nat → Nat} {i : Nat × Nat} {f : Nat → Value} {a : Nat} {H H1 : Heap} (h : am_cl D U ad i f a H) (hq : H1[a]? = H[a]?) : am_cl D U ad i f a H1 := by
  refine ⟨fun c h1 h2 => (h.1 c h1 h2).kept hq, fun h1 h2 => ?_, h.2.2⟩
  obtain ⟨z, cA, g1, g2⟩ := h.2.1 h1 h2
  exact ⟨z, cA, by rw [hq]; exact g1, g2⟩
theorem am_cl.ad {D : va_G} {U : State} {ad ad2 : Nat → Nat} {i : Nat × Nat} {f : Nat → Value} {a : Nat} {H : Heap} (h : am_cl D U ad i f a H) (hf : ∀ j, am_tr ad2 (f j) = am_tr ad (f j)) : am_cl D U ad2 i f a H := by
  have e : (fun j => am_tr ad2 (f j)) = (fun j => am_tr ad (f j)) := funext hf
  unfold am_cl
  rw [e]
  exact h
theorem am_cl.moved {D : va_G} {u U : State} {ad : Nat → Nat} {i : Nat × Nat} {f : Nat → Value} {a : Nat} {H : Heap} (hvm : u.vm.Alike U.vm) (h : am_cl D u ad i f a H) : am_cl D U ad i f a H := by
  refine ⟨h.1, fun h1 h2 => ?_, h.2.2⟩
  obtain ⟨z, cA, g1, g2, g3⟩ := h.2.1 h1 h2
  exact ⟨z, cA, g1, arrOfT_moved hvm g2, g3.moved hvm⟩
theorem am_Rp.moved {D : va_G} {B L : Nat} {xs : Nat → Int32} {ax : Nat → Nat} {u U : State} {ad : Nat → Nat} {S : AmS} {H : Heap} (hvm : u.vm.Alike U.vm) (h : am_Rp D B L xs ax u ad S H) : am_Rp D B L xs ax U ad S H := by
  obtain ⟨h1, h2, h3, h4, h5, h6⟩ := h
  exact ⟨h1, h2, h3, fun k hk => ⟨(h4 k hk).1, fun z => ⟨((h4 k hk).2 z).1, ((h4 k hk).2 z).2.1, ((h4 k hk).2 z).2.2.moved hvm⟩⟩, h5, h6⟩
theorem am_I0_tag (L k : Nat) : (am_I0 L k).1 = 0 ∨ (am_I0 L k).1 = 71 ∨ (am_I0 L k).1 = 74 ∨ (am_I0 L k).1 = 76 ∨ (am_I0 L k).1 = 77 := by
  unfold am_I0
  cases Nat.blt k am_EXT <;> cases Nat.beq k am_EXT <;> cases Nat.blt k (am_EXT + 4) <;> cases Nat.blt k (am_EXT + 4 + am_NS) <;> cases Nat.blt k (am_EXT + 4 + am_NS + am_NS) <;> simp
/-- a cell of a tag below 66 is one of this run -/
theorem am_Rp.own {D : va_G} {B L : Nat} {xs : Nat → Int32} {ax : Nat → Nat} {U : State} {ad : Nat → Nat} {S : AmS} {H : Heap} (h : am_Rp D B L xs ax U ad S H) {k : Nat} (hk : k < S.2.2.1 ∨ am_EXT ≤ k) (ht : (S.1 k).1 ≤ 65) (h0 : (S.1 k).1 ≠ 0) : k < S.2.2.1 ∧ B ≤ ad k ∧ ad k < H.size ∧ am_cl D U ad (S.1 k) (S.2.1 k) (ad k) H := by
  rcases hk with hk | hk
  · exact ⟨hk, (h.2.2.2.1 k hk).2 h0⟩
  · exfalso
    have e := (h.2.2.1 k hk).2.1
    rw [e] at ht h0
    rcases am_I0_tag L k with q | q | q | q | q <;> omega
theorem am_Rp.ext {D : va_G} {B L : Nat} {xs : Nat → Int32} {ax : Nat → Nat} {U : State} {ad : Nat → Nat} {S : AmS} {H : Heap} (h : am_Rp D B L xs ax U ad S H) {k : Nat} (hk : k < S.2.2.1 ∨ am_EXT ≤ k) (ht : 66 ≤ (S.1 k).1) : am_EXT ≤ k ∧ ad k = ax k ∧ S.1 k = am_I0 L k ∧ ∀ j, S.2.1 k j = am_M0 xs k j := by
  rcases hk with hk | hk
  · have := (h.2.2.2.1 k hk).1
    omega
  · exact ⟨hk, h.2.2.1 k hk⟩
/-- a cell of this run is written -/
theorem am_Rp.put {D : va_G} {B L : Nat} {xs : Nat → Int32} {ax : Nat → Nat} {U : State} {ad : Nat → Nat} {S : AmS} {H H1 : Heap} (h : am_Rp D B L xs ax U ad S H) {k : Nat} (hk : k < S.2.2.1) (h0 : (S.1 k).1 ≠ 0) {M : Nat → Nat → Value} (hM : ∀ b, b ≠ k → M b = S.2.1 b) (hw : ∀ j, am_wf S.2.2.1 (M k j))
    (hz : H1.size = H.size) (ho : ∀ q, q ≠ ad k → H1[q]? = H[q]?) (hc : am_cl D U ad (S.1 k) (M k) (ad k) H1) : am_Rp D B L xs ax U ad (S.1, M, S.2.2) H1 := by
  obtain ⟨h1, h2, h3, h4, h5, h6⟩ := h
  refine ⟨h1, by rw [hz]; exact h2, fun b hb => ?_, fun b hb => ⟨(h4 b hb).1, fun z => ?_⟩, h5, fun b j hb => ?_⟩
  · obtain ⟨g1, g2, g3⟩ := h3 b hb
    refine ⟨g1, g2, fun j => ?_⟩
    show M b j = _
    rw [hM b (by show b ≠ k; omega)]
    exact g3 j
  · obtain ⟨g1, g2, g3⟩ := (h4 b hb).2 z
    refine ⟨g1, by rw [hz]; exact g2, ?_⟩
    show am_cl D U ad (S.1 b) (M b) (ad b) H1
    by_cases e : b = k
    · rw [e]; exact hc
    · rw [hM b e]
      exact g3.kept (ho _ fun q => e (h5 b k hb hk z h0 q))
  · show am_wf S.2.2.1 (M b j)
    by_cases e : b = k
    · rw [e]; exact hw j
    · rw [hM b e]; exact h6 b j hb
/-- a cell is made -/
theorem am_Rp.new {D : va_G} {B L : Nat} {xs : Nat → Int32} {ax : Nat → Nat} {U : State} {ad : Nat → Nat} {S : AmS} {H H1 : Heap} (h : am_Rp D B L xs ax U ad S H) (hT : S.2.2.1 < am_EXT) {q : Nat} {i : Nat × Nat} {d : Nat → Value} (nc ns : Nat) (hi : i.1 ≤ 65) (hd : ∀ j, am_wf S.2.2.1 (d j))
    (hz : H.size ≤ H1.size) (ho : ∀ x, x < H.size → H1[x]? = H[x]?) (hc : i.1 ≠ 0 → H.size ≤ q ∧ q < H1.size ∧ am_cl D U ad i d q H1) :
    am_Rp D B L xs ax U (am_up ad S.2.2.1 q) (am_upI S.1 S.2.2.1 i, am_newM S.2.1 S.2.2.1 d, S.2.2.1 + 1, nc, ns) H1 := by
  obtain ⟨h1, h2, h3, h4, h5, h6⟩ := h
  have eI : ∀ b, b ≠ S.2.2.1 → am_upI S.1 S.2.2.1 i b = S.1 b := fun b hb => by simp [am_upI, am_beq_f hb]
  have eM : ∀ b, b ≠ S.2.2.1 → am_newM S.2.1 S.2.2.1 d b = S.2.1 b := fun b hb => by funext j; simp [am_newM, am_beq_f hb]
  have eI0 : am_upI S.1 S.2.2.1 i S.2.2.1 = i := by simp [am_upI]
  have eM0 : am_newM S.2.1 S.2.2.1 d S.2.2.1 = d := by funext j; simp [am_newM]
  refine ⟨hT, Nat.le_trans h2 hz, fun b hb => ?_, fun b hb => ?_, fun x y hx hy tx ty e => ?_, fun b j hb => ?_⟩
  · obtain ⟨g1, g2, g3⟩ := h3 b hb
    have hne : b ≠ S.2.2.1 := by omega
    refine ⟨by rw [am_up_n ad q hne]; exact g1, by show am_upI _ _ _ _ = _; rw [eI b hne]; exact g2, fun j => ?_⟩
    show am_newM _ _ _ _ _ = _
    rw [eM b hne]; exact g3 j
  · show (am_upI S.1 S.2.2.1 i b).1 ≤ 65 ∧ ((am_upI S.1 S.2.2.1 i b).1 ≠ 0 → B ≤ am_up ad S.2.2.1 q b ∧ am_up ad S.2.2.1 q b < H1.size ∧ am_cl D U (am_up ad S.2.2.1 q) (am_upI S.1 S.2.2.1 i b) (am_newM S.2.1 S.2.2.1 d b) (am_up ad S.2.2.1 q b) H1)
    by_cases e : b = S.2.2.1
    · rw [e, eI0, eM0, am_up_s]
      refine ⟨hi, fun z => ?_⟩
      obtain ⟨c1, c2, c3⟩ := hc z
      exact ⟨by omega, c2, c3.ad fun j => am_tr_up hT (hd j)⟩
    · rw [eI b e, eM b e, am_up_n ad q e]
      have hb' : b < S.2.2.1 := by have : b < S.2.2.1 + 1 := hb; omega
      refine ⟨(h4 b hb').1, fun z => ?_⟩
      obtain ⟨c1, c2, c3⟩ := (h4 b hb').2 z
      exact ⟨c1, by omega, (c3.kept (ho _ c2)).ad fun j => am_tr_up hT (h6 b j hb')⟩
  · have hx' : x < S.2.2.1 + 1 := hx
    have hy' : y < S.2.2.1 + 1 := hy
    have tx' : (am_upI S.1 S.2.2.1 i x).1 ≠ 0 := tx
    have ty' : (am_upI S.1 S.2.2.1 i y).1 ≠ 0 := ty
    by_cases ex : x = S.2.2.1 <;> by_cases ey : y = S.2.2.1
    · omega
    · exfalso
      rw [ex, am_up_s, am_up_n ad q ey] at e
      rw [ex, eI0] at tx'
      rw [eI y ey] at ty'
      have c1 := ((h4 y (by omega)).2 ty').2.1
      have c2 := (hc tx').1
      omega
    · exfalso
      rw [ey, am_up_s, am_up_n ad q ex] at e
      rw [ey, eI0] at ty'
      rw [eI x ex] at tx'
      have c1 := ((h4 x (by omega)).2 tx').2.1
      have c2 := (hc ty').1
      omega
    · rw [am_up_n ad q ex, am_up_n ad q ey] at e
      rw [eI x ex] at tx'
      rw [eI y ey] at ty'
      exact h5 x y (by omega) (by omega) tx' ty' e
  · show am_wf (S.2.2.1 + 1) (am_newM S.2.1 S.2.2.1 d b j)
    by_cases e : b = S.2.2.1
    · rw [e, eM0]; exact (hd j).mono (by omega)
    · rw [eM b e]
      exact (h6 b j (by have : b < S.2.2.1 + 1 := hb; omega)).mono (by omega)
theorem am_ax.moved {u U : State} {ty : FieldType} {N : Nat} {f : Nat → Value} {a : Nat} {H : Heap} (hvm : u.vm.Alike U.vm) (h : am_ax u ty N f a H) : am_ax U ty N f a H := by
  obtain ⟨cell, h1, h2, h3⟩ := h
  exact ⟨cell, h1, State.isArrayOf_alike hvm h2, h3⟩
theorem am_ax.kept {U : State} {ty : FieldType} {N : Nat} {f : Nat → Value} {a : Nat} {H H1 : Heap} (h : am_ax U ty N f a H) (hq : H1[a]? = H[a]?) : am_ax U ty N f a H1 := by
  obtain ⟨cell, h1, h2⟩ := h
  exact ⟨cell, by rw [hq]; exact h1, h2⟩
theorem am_ax_own {U : State} {cA : ClassId} {ty : FieldType} {N : Nat} {f : Nat → Value} {a : Nat} {H : Heap} (h : H[a]? = some (arrV cA N f)) (hA : ArrOfT U cA ty) : am_ax U ty N f a H :=
  ⟨_, h, hA _ _, (fun q => by cases q), by rw [arrV_size]; exact Nat.le_refl _, by rw [arrV_size], fun j hj => arrV_read cA f hj⟩
theorem am_wf_cond {t : Nat} {b : Bool} {x y : Value} (h1 : b = true → am_wf t x) (h2 : b = false → am_wf t y) : am_wf t (cond b x y) := by
  cases b
  · exact h2 rfl
  · exact h1 rfl
theorem am_sz_wf (xs : Nat → Int32) : am_wf 0 (am_sz xs) := am_wf_cond (fun _ => am_wf_n) fun _ q hq => Or.inr (by
  have e : @Eq Nat _ q := Value.ref.inj hq
  omega)
theorem am_M0_z (xs : Nat → Int32) (j : Nat) : am_M0 xs (am_EXT + 1) j = am_sz xs := by
  unfold am_M0
  rw [show Nat.blt (am_EXT + 1) am_EXT = false by decide +kernel, show Nat.beq (am_EXT + 1) am_EXT = false by decide +kernel, show Nat.blt (am_EXT + 1) (am_EXT + 4) = true by decide +kernel]
  rfl
theorem am_M0_wf (xs : Nat → Int32) (k j : Nat) : am_wf 0 (am_M0 xs k j) := by
  unfold am_M0
  refine am_wf_cond (fun _ => am_wf_n) fun hb => am_wf_cond (fun _ => am_wf_i) fun _ => am_wf_cond (fun _ => am_sz_wf xs) fun _ => am_wf_cond (fun _ => am_wf_cond (fun _ q hq => Or.inr ?_) fun _ => am_wf_i) fun _ => am_wf_cond (fun _ => am_wf_i) fun _ => am_wf_n
  have e : @Eq Nat _ q := Value.ref.inj hq
  have h1 : ¬ k + 1 ≤ am_EXT := fun h => by
    rw [show Nat.blt k am_EXT = true from Nat.ble_eq_true_of_le h] at hb
    cases hb
  omega
/-- any array that is read -/
theorem am_arr {D : va_G} {B L : Nat} {xs : Nat → Int32} {ax : Nat → Nat} {s U : State} {ad : Nat → Nat} {S : AmS} {Hh H : Heap} (hE : am_E D B L xs ax U Hh) (hk : ∀ q, q < B → H[q]? = Hh[q]?) (h : am_Rp D B L xs ax U ad S H) {k : Nat} (hw : k < S.2.2.1 ∨ am_EXT ≤ k) (h1 : 61 ≤ (S.1 k).1) (h2 : (S.1 k).1 ≤ 76) (h3 : (S.1 k).1 ≤ 65 ∨ 71 ≤ (S.1 k).1) :
    am_ax U (am_ty (S.1 k).1) (S.1 k).2 (fun j => am_tr ad (S.2.1 k j)) (ad k) H := by
  rcases h3 with h3 | h3
  · obtain ⟨a1, a2, a3, a4⟩ := h.own hw h3 (by omega)
    obtain ⟨z, cA, g1, g2, g3⟩ := a4.2.1 h1 h3
    exact am_ax_own g1 g2
  · obtain ⟨a1, a2, a3, a4⟩ := h.ext hw (by omega)
    rw [a3] at h3 h2 ⊢
    obtain ⟨g1, g2⟩ := hE.2.2.2.1 k a1 h3 h2
    rw [a2]
    have e : (fun j => am_tr ad (S.2.1 k j)) = (fun j => am_tr ax (am_M0 xs k j)) := by
      funext j
      rw [a4 j]
      have hm : am_wf 0 (am_M0 xs k j) := am_M0_wf xs k j
      cases hv : am_M0 xs k j with
      | ref q =>
        have := hm q hv
        show Value.ref (ad q) = Value.ref (ax q)
        rw [(h.2.2.1 q (by omega)).1]
      | _ => rfl
    rw [e]
    exact g2.kept (hk _ g1)
