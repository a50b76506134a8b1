/-! EDGES that come by a stop several times. -/
def sx_gn (G : SyG) (X : List Nat) (O : SyO) (stops : List (Nat × Nat × Nat)) (f : Nat) : Nat → SyC → Option SyC
  | 0, C => some C
  | m + 1, C => match sx_go G X O stops f C with
    | some C' => sx_gn G X O stops f m C'
    | none => none
def sx_edn (G : SyG) (X : List Nat) (O : SyO) (stops : List (Nat × Nat × Nat)) (f m : Nat) (L : SyW) (s : List (Nat × SyV)) (A T : SyC) : Bool := match sx_gn G X O stops f m A with
  | some C => sx_le G L s T C
  | none => false
section SyN
variable {pv pw : Nat → Int} {G : SyG} {M D : SyM} {S : AmS} {s : List (Nat × SyV)} {rest : List MsF} {c c' : MsC}
theorem sx_gn_ok {X : SyX} {O : SyO} (hg : sy_g pv G) (hO : sy_Or pv X O) {rest : List MsF} (hr : rest.length ≤ sy_lim O) {stops : List (Nat × Nat × Nat)} {f : Nat} : ∀ {m : Nat} {C C' : SyC} {c : MsC}, sx_gn G X.1 O stops f m C = some C' → sy_C pv X rest C c → ∃ c', rch c c' ∧ sy_C pv X rest C' c' := by
  intro m
  induction m with
  | zero =>
    intro C C' c h hC
    have e : C = C' := Option.some.inj h
    subst e
    exact ⟨c, rch.rf c, hC⟩
  | succ m ih =>
    intro C C' c h hC
    unfold sx_gn at h
    split at h
    · rename_i C1 h1
      obtain ⟨c1, k1, k2⟩ := sx_go_ok hg hO hr h1 hC
      obtain ⟨c2, k3, k4⟩ := ih h k2
      exact ⟨c2, k1.tr k3, k4⟩
    · cases h
/-- an edge -/
theorem sx_edn_ok {X : List Nat} {O : SyO} {stops : List (Nat × Nat × Nat)} {f m : Nat} {L : SyW} {A T : SyC} {c : MsC} {rest : List MsF} (h : sx_edn G X O stops f m L s A T = true) (hl : A.2.2.2.2.2 = []) (ht : T.2.2.1.1 = 0 ∧ T.2.2.2.1.1 = 0 ∧ T.2.2.2.2.1.1 = 0) (hg : sy_g pv G) (hO : sy_Or pv (sy_x X c) O) (hr : rest.length ≤ sy_lim O) (hX : ∀ a ∈ X, a < c.2.2.2.1) (hA : sy_T pv rest A c) (hk : sy_K0 c) :
    ∃ c', rch c c' ∧ sy_T (sy_pv pv s) rest T c' ∧ sy_K0 c' ∧ sy_ch pv L c c' ∧ (∀ a ∈ X, ∀ k, c'.2.2.1 a k = c.2.2.1 a k) ∧ ∀ a k : Nat, am_EXT ≤ a → c'.2.2.1 a k = c.2.2.1 a k := by
  unfold sx_edn at h
  split at h
  · rename_i C hgo
    have hC : sy_C pv (sy_x X c) rest A c := ⟨hA.1, hA.2.1, hA.2.2, fun a k _ _ => rfl, fun a _ => rfl, fun a ha => ⟨hX a ha, fun _ => rfl⟩, hk.1, Nat.le_refl _, hk.2, fun a k _ => rfl⟩
    obtain ⟨c', k1, k2, k3, ⟨k4, k5, k6⟩, k7, k8, k9, k10, k11, k12, k13⟩ := sx_gn_ok (X := sy_x X c) hg hO hr hgo hC
    unfold sx_le at h
    obtain ⟨h1, h⟩ := Bool.and_eq_true_iff.mp h
    obtain ⟨h2, h⟩ := Bool.and_eq_true_iff.mp h
    obtain ⟨h3, h⟩ := Bool.and_eq_true_iff.mp h
    obtain ⟨h4, h⟩ := Bool.and_eq_true_iff.mp h
    obtain ⟨h5, h6⟩ := Bool.and_eq_true_iff.mp h
    refine ⟨c', k1, ⟨sy_lF_ok h1 k2, sy_lM_ok hg k3 h2, sy_su_i h3 ht.1 k4, sy_su_i h4 ht.2.1 k5, sy_su_i h5 ht.2.2 k6⟩, ⟨k10, by rw [k13 _ _ (Nat.le_add_right _ _)]; exact k12⟩, ⟨fun a k ha hq => ?_, k8, k11⟩, fun a ha k => (k9 a ha).2 k, k13⟩
    refine k7 a k ha fun p hp => ?_
    intro hpk
    obtain ⟨q, q1, q2⟩ := List.any_eq_true.mp (List.all_eq_true.mp h6 p hp)
    obtain ⟨q2, q3⟩ := Bool.and_eq_true_iff.mp q2
    obtain ⟨q3, q4⟩ := Bool.and_eq_true_iff.mp q3
    have e1 := sy_same_n (pv := pv) q2
    have e2 := sy_ge_ok hg q3
    have e3 := sy_ge_ok hg q4
    exact hq q q1 ⟨by omega, by omega, by omega⟩
  · cases h
/-- an edge, with all that stays -/
theorem sy_gon {X : List Nat} {O : SyO} {stops : List (Nat × Nat × Nat)} {f mm Ls : Nat} {L : SyW} {s : List (Nat × SyV)} {A T : SyC} {xs : Nat → Int32} {m : List Nat} (h : sx_edn G X O stops f mm L s A T = true) (hl : A.2.2.2.2.2 = []) (ht : T.2.2.1.1 = 0 ∧ T.2.2.2.1.1 = 0 ∧ T.2.2.2.2.1.1 = 0) (hb : sy_bC m T = true) (hp : ∀ p ∈ m, sy_pv pv s p = pw p) (hg : sy_g pv G) (hO : sy_Or pv (sy_x X c) O) (hr : rest.length ≤ sy_lim O) (hX : ∀ a ∈ X, a < c.2.2.2.1) (hA : sy_T pv rest A c) (hk : sy_E0 Ls xs c) :
    ∃ c', rch c c' ∧ sy_T pw rest T c' ∧ sy_E0 Ls xs c' ∧ sy_ch pv L c c' ∧ ∀ a ∈ X, ∀ k, c'.2.2.1 a k = c.2.2.1 a k := by
  obtain ⟨c', k1, k2, k3, k4, k5, k6⟩ := sx_edn_ok h hl ht hg hO hr hX hA hk.k0
  exact ⟨c', k1, sy_b_T hp hb k2, ⟨fun a k ha => by rw [k6 a k ha]; exact hk.1 a k ha, fun a ha => by rw [k4.2.1 a (Or.inr ha)]; exact hk.2.1 a ha, k3.1⟩, k4, k5⟩
end SyN
