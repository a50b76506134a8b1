/-! THE LAW'S WALK. -/
theorem am_k41c {j : Nat} {o : AmIns} {ce : AmE} (h : am_k41 j o ce = true) (hr : am_rt j = some .boolean) : ce.2.1 = .ireturn ∧ ce.2.2.1 = 1 := by
  unfold am_k41 at h
  obtain ⟨k3, h⟩ := Bool.and_eq_true_iff.mp h
  obtain ⟨pc, ins, len, ws⟩ := ce
  dsimp only at h k3 ⊢
  refine ⟨?_, am_beq k3⟩
  rw [hr] at h
  split at h
  · first | rfl | assumption
  · have q := of_decide_eq_true h
    simp at q
  · have q := of_decide_eq_true h
    simp at q
  · have q := of_decide_eq_true h
    simp at q
  · cases h
set_option maxHeartbeats 4000000 in
theorem am_whole {p : Program} {e : Env} {s : State} {m : MethodId} {below : List Frame} {meth : Method} {c : Code} (l : Launch) (hflags : l.flags = flags0) {b L : Nat} {xs : Nat → Int32} (hL : L ≤ 260) (hx : p.tables.exec = Jvm.exec) (hb : c.code = code) (hr : meth.sig.returnType = ret) (hml : c.maxLocals = 11) (hown : s.vm.findClass "HornBenchLaw" = some m.cls) (hts : ∀ w ∈ lw_tbl, w.before #[Value.ref b] s = true) (hX : va_X b L xs s s.heap) (hbl : b < s.heap.size) (hgv : (Jvm.Cond.and given_1 narrow_1).before #[Value.ref b] s = true) {Q : State → Prop}
    (hend : ∀ (H : Heap) (lsB : Array Slot) (pc : Nat) (locs : List Loc) (cells slots : Nat), decode code pc = .ok (.ireturn, 1) → (∀ q ∈ locs, s.heap.size ≤ q.base) → cells ≤ 600086 → slots ≤ 7301442 → W p l e room_1 s m #[Value.ref b] below meth c H locs cells slots Q (F0 m pc lsB [.int 1])) :
    W p l e room_1 s m #[Value.ref b] below meth c s.heap [] 0 0 Q (entryFrame m ([Value.ref b] : List Value).toArray 11) := by
  have hlf : l.stackTraces = false := by
    show (!l.flags.contains noTraceFlag) = false
    rw [hflags]
    decide +kernel
  obtain ⟨D, ax, xs, hax, -, hE⟩ := am_E0 hts hX hbl (by omega) hgv
  obtain ⟨f9, S', hgo, hc1, hc2⟩ := law_all (xs := xs) (show L ≤ 1000 by omega)
  have hR : am_Rp D s.heap.size L xs ax s ax (am_S0 L xs) s.heap := ⟨Nat.zero_le _, Nat.le_refl _, fun k _ => ⟨rfl, rfl, fun _ => rfl⟩, fun k hk => absurd hk (Nat.not_lt_zero k), fun i k hi => absurd hi (Nat.not_lt_zero i), fun k j hk => absurd hk (Nat.not_lt_zero k)⟩
  have hF : am_Fr p s m #[Value.ref b] meth c am_LW := ⟨hx, hb, hown, hml, am_T_tbl hts, Or.inr rfl, Or.inl rfl⟩
  have K := am_body (am_sim l hlf f9) hgo (show am_LW < 164 by decide) (args := #[Value.ref b]) (below := below) (R := room_1) (e := e) (Q := Q) (ad := ax) hF hE hR
    (fun x hx9 => by
      rcases List.mem_cons.mp hx9 with rfl | hx9
      · intro k hk
        have e9 : am_EXT = k := Value.ref.inj hk
        exact Or.inr (by omega)
      · cases hx9) (by decide) (show 10 + 60 ≤ 2048 by decide) (show 200 + 60 * 60 ≤ 84000 by decide) (show S'.2.2.2.1 ≤ 0 + 600086 by omega) (show S'.2.2.2.2 ≤ 0 + 7301442 by omega)
    (fun n9 o9 st9 S9 ad9 H9 locs9 cells9 slots9 lsB ho hfin hI hz => by
      obtain ⟨hd, hk⟩ := am_kk_at (show am_LW < 164 by decide) ho
      unfold am_fin at hfin
      cases h41 : Nat.beq o9.1 41 with
      | false =>
        rw [h41] at hfin
        exact (am_thr_no hfin).elim
      | true =>
        rw [h41] at hfin
        simp only [cond_true] at hfin
        obtain ⟨i1, i2⟩ := am_k41c (am_hk41 hk h41) rfl
        rw [i1, i2] at hd
        have hS9 := am_ends_S hfin
        have c1 := hI.2.2.2.2.1
        have c2 := hI.2.2.2.2.2
        have hst : st9 = [.int 1] := by
          unfold am_ends at hfin
          split at hfin
          · obtain ⟨-, h2⟩ := am_cnd hfin
            cases h2
          · obtain ⟨-, h2⟩ := am_cnd hfin
            cases h2
            rfl
          · cases hfin
        rw [hst]
        have c3 : cells9 + 0 = S9.2.2.2.1 := c1
        have c4 : slots9 + 0 = S9.2.2.2.2 := c2
        rw [hS9] at hc1 hc2
        exact hend H9 lsB _ locs9 cells9 slots9 hd (fun q hq => hI.2.1.2.2 q hq) (by omega) (by omega))
  rw [show ([Value.ref am_EXT].map (am_tr ax)) = [Value.ref b] from by show [Value.ref (ax am_EXT)] = _; rw [hax]] at K
  exact K
