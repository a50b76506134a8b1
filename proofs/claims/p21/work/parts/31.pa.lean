/-! PHASE A: the start, and the text of the program in the row. -/
/-- a place holds an int -/
def ai (M : Nat → Nat → Value) (a j : Nat) (z : Int) : Prop := ∃ x : Int32, M a j = .int x ∧ x.toInt = z
/-- a fact: its predicate's letter, its arguments' -/
abbrev Fa : Type := Nat → Int × Int × Int
def fa_ok (f : Int × Int × Int) : Prop := (f.1 = 112 ∨ f.1 = 113) ∧ (97 ≤ f.2.1 ∧ f.2.1 ≤ 99) ∧ ((97 ≤ f.2.2 ∧ f.2.2 ≤ 99) ∨ f.2.2 = 88)
/-- the bytes of a fact -/
def fa_b (f : Int × Int × Int) (i : Nat) : Int := [f.1, 40, f.2.1, 44, 32, f.2.2, 41, 46, 32].getD i 0
def row_ok (fa : Fa) (k : Nat) (M : Nat → Nat → Value) : Prop := ∀ j, j < k → ∀ i, i < 9 → ai M 52 (1 + 9 * j + i) (fa_b (fa j) i)
theorem ai_of {pv : Nat → Int} {M : Nat → Nat → Value} {a : SyV} {c j : Nat} {z : Int} (hv : sy_v pv a (M c j)) (hk : a.1 = 0) (hz : sy_n pv a = z) : ai M c j z := by
  obtain ⟨x, h1, h2⟩ := hv.int hk
  exact ⟨x, h1, by rw [h2, hz]⟩
/-- an int that is told -/
theorem sy_me.ai {pv : Nat → Int} {M : SyM} {S : AmS} (hM : sy_me pv M S) {e : SyE} (he : e ∈ M) {p : SyV × SyV} (hp : p ∈ e.2.2.2.2) (hk : p.2.1 = 0) {c j : Nat} {z : Int} (hc : sy_n pv e.1 = c) (hj : sy_n pv p.1 = j) (hz : sy_n pv p.2 = z) : ai S.2.1 c j z := by
  obtain ⟨-, -, h3, -⟩ := sy_ce_at (hM e he) hc
  obtain ⟨i, i1, i2⟩ := h3 p hp
  have e1 : i = j := by omega
  subst e1
  exact ai_of i2 hk hz
/-- what is kept all through phase A -/
def pa_K (L : Nat) (xs : Nat → Int32) (c : MsC) : Prop := sy_E0 L xs c ∧ sy_me (fun _ => 0) ga_CM c.2 ∧ sy_me (fun _ => 0) ga_LET c.2 ∧ 52 < c.2.2.2.1
/-- the row's places up to 9 k stay -/
def pa_R (k : Nat) (c c' : MsC) : Prop := ∀ j, 1 ≤ j → j ≤ 9 * k → c'.2.2.1 52 j = c.2.2.1 52 j
theorem pa_R.tr {k : Nat} {a b c : MsC} (h1 : pa_R k a b) (h2 : pa_R k b c) : pa_R k a c := fun j k1 k2 => (h2 j k1 k2).trans (h1 j k1 k2)
section PaS
variable {L : Nat} {xs : Nat → Int32} {pv : Nat → Int} {c c' : MsC}
theorem pa_keep {k : Nat} (hk : pa_K L xs c) (hE : sy_E0 L xs c') (hc : sy_ch pv ga_W c c') (hp : pv 1 = k) : pa_K L xs c' ∧ pa_R k c c' := by
  obtain ⟨h1, h2, h3, h4⟩ := hk
  have hg : sy_g (fun _ : Nat => (0 : Int)) ([], []) := sg_0
  have hne : ∀ a j : Nat, a ≠ 52 → (a < c.2.2.2.1 ∨ am_EXT ≤ a) → c'.2.2.1 a j = c.2.2.1 a j := fun a j ha hb => hc.1 a j hb fun q hq z => by
    have h9 : sy_n pv q.1 = 52 := by
      rcases List.mem_cons.mp hq with rfl | hq
      · exact sy_n0 rfl
      · rcases List.mem_cons.mp hq with rfl | hq
        · exact sy_n0 rfl
        · cases hq
    omega
  have hme : ∀ M : SyM, M.all (fun e => Nat.beq e.1.2.2.2 0 && !(sy_eq e.1.2.1 52)) = true → sy_me (fun _ => 0) M c.2 → sy_me (fun _ => 0) M c'.2 := fun M hM h e he => by
    obtain ⟨a1, a2⟩ := Bool.and_eq_true_iff.mp (List.all_eq_true.mp hM e he)
    obtain ⟨q, g1, g2, g3, g4, g5⟩ := h e he
    have hq : q ≠ 52 := fun z => by
      rw [sy_n0 (am_beq a1), z] at g1
      rw [g1] at a2
      cases a2
    exact ⟨q, g1, by rw [hc.2.1 q g3]; exact g2, g3.imp (fun z => Nat.lt_of_lt_of_le z hc.2.2) id, fun p hp => by
      obtain ⟨i, i1, i2⟩ := g4 p hp
      exact ⟨i, i1, by rw [hne q i hq g3]; exact i2⟩, fun d hd j hj => by rw [hne q j hq g3]; exact g5 d hd j hj⟩
  refine ⟨⟨hE, hme _ (by decide +kernel) h2, hme _ (by decide +kernel) h3, Nat.lt_of_lt_of_le h4 hc.2.2⟩, fun j k1 k2 => ?_⟩
  refine hc.1 52 j (Or.inl h4) fun q hq z => ?_
  rcases List.mem_cons.mp hq with rfl | hq
  · have : sy_n pv (0, 0, 0, 0) = 0 := sy_n0 rfl
    dsimp only at z
    omega
  · rcases List.mem_cons.mp hq with rfl | hq
    · have e1 : sy_n pv (0, 1, 1, 9) = 1 + 9 * k := by
        unfold sy_n
        dsimp only
        rw [hp]
        rfl
      dsimp only at z
      omega
    · cases hq
/-- more is told: the letters, the texts -/
theorem pa_D (hk : pa_K L xs c) : sy_me pv (ga_LET ++ ga_STR) c.2 := (hk.2.2.1.const (by decide +kernel)).app (sy_xE_ok hk.1 (by decide +kernel))
/-- the bytes of a fact, as they are told -/
theorem pa_bytes {n k : Nat} {p u v : Int} (hT : sy_T (sy_ev [n, (k : Int) + 1, 0, p, u, v]) [] ga_T32b c) : ∀ i, i < 9 → ai c.2.2.1 52 (1 + 9 * k + i) (fa_b (p, u, v) i) := by
  obtain ⟨-, -, h3, -⟩ := sy_ce_at (hT.2.1 _ List.mem_cons_self) (k := 52) (sy_n0 rfl)
  have look : ∀ (j : Nat) (a b : SyV) (z : Int), (a, b) ∈ (ga_row9 : List (SyV × SyV)) → b.1 = 0 → sy_n (sy_ev [n, (k : Int) + 1, 0, p, u, v]) a = j → sy_n (sy_ev [n, (k : Int) + 1, 0, p, u, v]) b = z → ai c.2.2.1 52 j z := fun j a b z hm hb0 hj hz => by
    obtain ⟨i, i1, i2⟩ := h3 (a, b) (List.mem_cons_of_mem _ hm)
    have e1 : i = j := by
      dsimp only at i1
      omega
    subst e1
    exact ai_of i2 hb0 hz
  have hx : ∀ (a : Int) (i : Nat), a = (i : Int) - 8 → sy_n (sy_ev [n, (k : Int) + 1, 0, p, u, v]) (0, a, 1, 9) = ((1 + 9 * k + i : Nat) : Int) := fun a i h => by
    show a + ((9 : Nat) : Int) * ((k : Int) + 1) = _
    omega
  have hc : ∀ a : Int, sy_n (sy_ev [n, (k : Int) + 1, 0, p, u, v]) (0, a, 0, 0) = a := fun a => sy_n0 rfl
  have hq : ∀ (q : Nat) (z : Int), sy_ev [n, (k : Int) + 1, 0, p, u, v] q = z → sy_n (sy_ev [n, (k : Int) + 1, 0, p, u, v]) (0, 0, q, 1) = z := fun q z h => by
    unfold sy_n
    dsimp only
    rw [h]
    simp
  intro i hi
  match i, hi with
  | 0, _ => exact look _ (0, -8, 1, 9) (0, 0, 3, 1) p (by decide +kernel) rfl (hx _ 0 rfl) (hq 3 p rfl)
  | 1, _ => exact look _ (0, -7, 1, 9) (0, 40, 0, 0) 40 (by decide +kernel) rfl (hx _ 1 rfl) (hc _)
  | 2, _ => exact look _ (0, -6, 1, 9) (0, 0, 4, 1) u (by decide +kernel) rfl (hx _ 2 rfl) (hq 4 u rfl)
  | 3, _ => exact look _ (0, -5, 1, 9) (0, 44, 0, 0) 44 (by decide +kernel) rfl (hx _ 3 rfl) (hc _)
  | 4, _ => exact look _ (0, -4, 1, 9) (0, 32, 0, 0) 32 (by decide +kernel) rfl (hx _ 4 rfl) (hc _)
  | 5, _ => exact look _ (0, -3, 1, 9) (0, 0, 5, 1) v (by decide +kernel) rfl (hx _ 5 rfl) (hq 5 v rfl)
  | 6, _ => exact look _ (0, -2, 1, 9) (0, 41, 0, 0) 41 (by decide +kernel) rfl (hx _ 6 rfl) (hc _)
  | 7, _ => exact look _ (0, -1, 1, 9) (0, 46, 0, 0) 46 (by decide +kernel) rfl (hx _ 7 rfl) (hc _)
  | 8, _ => exact look _ (0, 0, 1, 9) (0, 32, 0, 0) 32 (by decide +kernel) rfl (hx _ 8 rfl) (hc _)
  | i + 9, h => exact absurd h (by omega)
set_option maxRecDepth 20000 in
/-- a fact more in the row -/
theorem pa_step (hL : L ≤ 1000) {n k : Nat} (hn : 2 ≤ n ∧ n ≤ 11) (hkn : k < n) (hT : sy_T (sy_ev [n, k]) [] ga_T32 c) (hk : pa_K L xs c) : ∃ (f : Int × Int × Int) (c' : MsC), fa_ok f ∧ rch c c' ∧ sy_T (sy_ev [n, (k : Int) + 1]) [] ga_T32 c' ∧ pa_K L xs c' ∧ pa_R k c c' ∧ ∀ i, i < 9 → ai c'.2.2.1 52 (1 + 9 * k + i) (fa_b f i) := by
  have b1 : (2 : Int) ≤ (n : Int) := by omega
  have b2 : (n : Int) ≤ 11 := by omega
  have b3 : (0 : Int) ≤ (k : Int) := by omega
  have b4 : (k : Int) ≤ 10 := by omega
  have b5 : (k : Int) < (n : Int) := by omega
  have g1 : sy_g (sy_ev [n, k]) ([(0, 2, 11), (1, 0, 10)], [(1, 0)]) := sg_b b1 b2 (sg_b b3 b4 (sg_r b5 sg_0))
  -- to the first choice
  have hA := sy_T_add (A := ga_A32) hT g1 (pa_D hk) (by decide +kernel) rfl ⟨rfl, rfl, rfl⟩
  obtain ⟨c1, r1, t1, e1, ch1, -⟩ := ga_2_u (Nat.zero_le _) _ _ b1 b2 b3 b4 b5 (sy_OC_ok hL hk.1) sx_0 hA hk.1
  obtain ⟨k1, w1⟩ := pa_keep (k := k) hk e1 ch1 rfl
  obtain ⟨x, x1, x2, t1⟩ := sy_T_top t1
  -- its predicate
  have g2 : sy_g (sy_ev [n, k]) ([(0, 2, 11), (1, 0, 10)], []) := sg_b b1 b2 (sg_b b3 b4 sg_0)
  obtain ⟨p, c2, hp, r2, t2, e2, ch2⟩ : ∃ (p : Int) (c2 : MsC), (p = 112 ∨ p = 113) ∧ rch c1 c2 ∧ sy_T (sy_ev [n, k, 0, p]) [] ga_T65 c2 ∧ sy_E0 L xs c2 ∧ sy_ch (sy_ev [n, k]) ga_W c1 c2 := by
    have h01 : x = 0 ∨ x = 1 := by omega
    rcases h01 with rfl | rfl
    · have hA := sy_T_add (A := ga_A530) t1 g2 (pa_D k1) (by decide +kernel) rfl ⟨rfl, rfl, rfl⟩
      obtain ⟨c2, r2, t2, e2, ch2, -⟩ := ga_30_u (Nat.zero_le _) _ _ b1 b2 b3 b4 (sy_OC_ok hL e1) sx_0 hA e1
      exact ⟨112, c2, Or.inl rfl, r2, t2, e2, ch2⟩
    · have hA := sy_T_add (A := ga_A531) t1 g2 (pa_D k1) (by decide +kernel) rfl ⟨rfl, rfl, rfl⟩
      obtain ⟨c2, r2, t2, e2, ch2, -⟩ := ga_31_u (Nat.zero_le _) _ _ b1 b2 b3 b4 (sy_OC_ok hL e1) sx_0 hA e1
      exact ⟨113, c2, Or.inr rfl, r2, t2, e2, ch2⟩
  obtain ⟨k2, w2⟩ := pa_keep (k := k) k1 e2 ch2 rfl
  obtain ⟨x, x1, x2, t2⟩ := sy_T_top t2
  have p1 : (112 : Int) ≤ p := by omega
  have p2 : p ≤ 113 := by omega
  -- its first argument
  have g3 : sy_g (sy_ev [n, k, 0, p]) ([(0, 2, 11), (1, 0, 10), (3, 112, 113)], []) := sg_b b1 b2 (sg_b b3 b4 (sg_b p1 p2 sg_0))
  obtain ⟨u, c3, hu, r3, t3, e3, ch3⟩ : ∃ (u : Int) (c3 : MsC), (97 ≤ u ∧ u ≤ 99) ∧ rch c2 c3 ∧ sy_T (sy_ev [n, k, 0, p, u]) [] ga_T75 c3 ∧ sy_E0 L xs c3 ∧ sy_ch (sy_ev [n, k, 0, p]) ga_W c2 c3 := by
    have h01 : x = 0 ∨ x = 1 ∨ x = 2 := by omega
    rcases h01 with rfl | rfl | rfl
    · have hA := sy_T_add (A := ga_A650) t2 g3 (pa_D k2) (by decide +kernel) rfl ⟨rfl, rfl, rfl⟩
      obtain ⟨c3, r3, t3, e3, ch3, -⟩ := ga_40_u (Nat.zero_le _) _ _ _ b1 b2 b3 b4 p1 p2 (sy_OC_ok hL e2) sx_0 hA e2
      exact ⟨97, c3, by omega, r3, t3, e3, ch3⟩
    · have hA := sy_T_add (A := ga_A651) t2 g3 (pa_D k2) (by decide +kernel) rfl ⟨rfl, rfl, rfl⟩
      obtain ⟨c3, r3, t3, e3, ch3, -⟩ := ga_41_u (Nat.zero_le _) _ _ _ b1 b2 b3 b4 p1 p2 (sy_OC_ok hL e2) sx_0 hA e2
      exact ⟨98, c3, by omega, r3, t3, e3, ch3⟩
    · have hA := sy_T_add (A := ga_A652) t2 g3 (pa_D k2) (by decide +kernel) rfl ⟨rfl, rfl, rfl⟩
      obtain ⟨c3, r3, t3, e3, ch3, -⟩ := ga_42_u (Nat.zero_le _) _ _ _ b1 b2 b3 b4 p1 p2 (sy_OC_ok hL e2) sx_0 hA e2
      exact ⟨99, c3, by omega, r3, t3, e3, ch3⟩
  obtain ⟨k3, w3⟩ := pa_keep (k := k) k2 e3 ch3 rfl
  obtain ⟨x, x1, x2, t3⟩ := sy_T_top t3
  -- its second argument
  have fin : ∀ (v : Int) (c4 : MsC), ((97 ≤ v ∧ v ≤ 99) ∨ v = 88) → rch c3 c4 → sy_T (sy_ev [n, (k : Int) + 1, 0, p, u, v]) [] ga_T32b c4 → pa_K L xs c4 → pa_R k c3 c4 → ∃ (f : Int × Int × Int) (c' : MsC), fa_ok f ∧ rch c c' ∧ sy_T (sy_ev [n, (k : Int) + 1]) [] ga_T32 c' ∧ pa_K L xs c' ∧ pa_R k c c' ∧ ∀ i, i < 9 → ai c'.2.2.1 52 (1 + 9 * k + i) (fa_b f i) := by
    intro v c4 hv r4 t4 k4 w4
    refine ⟨(p, u, v), c4, ⟨hp, hu, hv⟩, r1.tr (r2.tr (r3.tr r4)), ?_, k4, w1.tr (w2.tr (w3.tr w4)), pa_bytes t4⟩
    have t5 := sy_T_add (A := ga_T32) (D := []) t4 (G := ([], [])) sg_0 (fun _ h => (nomatch h)) (by decide +kernel) rfl ⟨rfl, rfl, rfl⟩
    exact sy_b_T (m := [0, 1]) (fun q hq => by
      rcases List.mem_cons.mp hq with rfl | hq
      · rfl
      · rcases List.mem_cons.mp hq with rfl | hq
        · rfl
        · cases hq) (by decide +kernel) t5
  have u1 := hu.1
  have u2 := hu.2
  by_cases hx : x = 0
  · subst hx
    have g4 : sy_g (sy_ev [n, k, 0, p, u]) ([(0, 2, 11), (1, 0, 10), (3, 112, 113), (4, 97, 99)], []) := sg_b b1 b2 (sg_b b3 b4 (sg_b p1 p2 (sg_b u1 u2 sg_0)))
    have hA := sy_T_add (A := ga_A750) t3 g4 (pa_D k3) (by decide +kernel) rfl ⟨rfl, rfl, rfl⟩
    obtain ⟨c4, r4, t4, e4, ch4, -⟩ := ga_5_u (Nat.zero_le _) _ _ _ _ b1 b2 b3 b4 p1 p2 u1 u2 (sy_OC_ok hL e3) sx_0 hA e3
    obtain ⟨k4, w4⟩ := pa_keep (k := k) k3 e4 ch4 rfl
    exact fin 88 c4 (Or.inr rfl) r4 t4 k4 w4
  · have x3 : 1 ≤ x := by omega
    have t3 : sy_T (sy_ev [n, k, x, p, u]) [] _ c3 := sy_b_T (m := [0, 1, 3, 4]) (fun q hq => by
      rcases List.mem_cons.mp hq with rfl | hq
      · rfl
      · rcases List.mem_cons.mp hq with rfl | hq
        · rfl
        · rcases List.mem_cons.mp hq with rfl | hq
          · rfl
          · rcases List.mem_cons.mp hq with rfl | hq
            · rfl
            · cases hq) (by rfl) t3
    have t3 := sy_T_topp (p := 2) t3 rfl
    have g4 : sy_g (sy_ev [n, k, x, p, u]) ([(0, 2, 11), (1, 0, 10), (3, 112, 113), (4, 97, 99)], []) := sg_b b1 b2 (sg_b b3 b4 (sg_b p1 p2 (sg_b u1 u2 sg_0)))
    have hA := sy_T_add (A := ga_A75x) t3 g4 (pa_D k3) (by decide +kernel) rfl ⟨rfl, rfl, rfl⟩
    obtain ⟨c4, r4, t4, e4, ch4, -⟩ := ga_6_u (Nat.zero_le _) _ _ _ _ _ b1 b2 b3 b4 p1 p2 u1 u2 x3 x2 (sy_OC_ok hL e3) sx_0 hA e3
    obtain ⟨k4, w4⟩ := pa_keep (k := k) k3 e4 ch4 rfl
    obtain ⟨y, y1, y2, t4⟩ := sy_T_top t4
    have g5 : sy_g (sy_ev [n, k, 0, p, u]) ([(0, 2, 11), (1, 0, 10), (3, 112, 113), (4, 97, 99)], []) := sg_b b1 b2 (sg_b b3 b4 (sg_b p1 p2 (sg_b u1 u2 sg_0)))
    have h01 : y = 0 ∨ y = 1 ∨ y = 2 := by omega
    rcases h01 with rfl | rfl | rfl
    · have hA := sy_T_add (A := ga_A870) t4 g5 (pa_D k4) (by decide +kernel) rfl ⟨rfl, rfl, rfl⟩
      obtain ⟨c5, r5, t5, e5, ch5, -⟩ := ga_70_u (Nat.zero_le _) _ _ _ _ b1 b2 b3 b4 p1 p2 u1 u2 (sy_OC_ok hL e4) sx_0 hA e4
      obtain ⟨k5, w5⟩ := pa_keep (k := k) k4 e5 ch5 rfl
      exact fin 97 c5 (Or.inl ⟨by omega, by omega⟩) (r4.tr r5) t5 k5 (w4.tr w5)
    · have hA := sy_T_add (A := ga_A871) t4 g5 (pa_D k4) (by decide +kernel) rfl ⟨rfl, rfl, rfl⟩
      obtain ⟨c5, r5, t5, e5, ch5, -⟩ := ga_71_u (Nat.zero_le _) _ _ _ _ b1 b2 b3 b4 p1 p2 u1 u2 (sy_OC_ok hL e4) sx_0 hA e4
      obtain ⟨k5, w5⟩ := pa_keep (k := k) k4 e5 ch5 rfl
      exact fin 98 c5 (Or.inl ⟨by omega, by omega⟩) (r4.tr r5) t5 k5 (w4.tr w5)
    · have hA := sy_T_add (A := ga_A872) t4 g5 (pa_D k4) (by decide +kernel) rfl ⟨rfl, rfl, rfl⟩
      obtain ⟨c5, r5, t5, e5, ch5, -⟩ := ga_72_u (Nat.zero_le _) _ _ _ _ b1 b2 b3 b4 p1 p2 u1 u2 (sy_OC_ok hL e4) sx_0 hA e4
      obtain ⟨k5, w5⟩ := pa_keep (k := k) k4 e5 ch5 rfl
      exact fin 99 c5 (Or.inl ⟨by omega, by omega⟩) (r4.tr r5) t5 k5 (w4.tr w5)
/-- all facts -/
theorem pa_loop (hL : L ≤ 1000) {n : Nat} (hn : 2 ≤ n ∧ n ≤ 11) : ∀ (d k : Nat) (c : MsC) (fa : Fa), k + d = n → (∀ j, j < k → fa_ok (fa j)) → sy_T (sy_ev [n, k]) [] ga_T32 c → pa_K L xs c → row_ok fa k c.2.2.1 → ∃ (fb : Fa) (c' : MsC), (∀ j, j < n → fa_ok (fb j)) ∧ rch c c' ∧ sy_T (sy_ev [n, n]) [] ga_T32 c' ∧ pa_K L xs c' ∧ row_ok fb n c'.2.2.1 := by
  intro d
  induction d with
  | zero =>
    intro k c fa hd hf hT hk hr
    have e : k = n := by omega
    subst e
    exact ⟨fa, c, hf, rch.rf c, hT, hk, hr⟩
  | succ d ih =>
    intro k c fa hd hf hT hk hr
    obtain ⟨f, c1, h1, h2, h3, h4, h5, h6⟩ := pa_step hL hn (show k < n by omega) hT hk
    obtain ⟨fb, c2, g1, g2, g3⟩ := ih (k + 1) c1 (fun j => if j = k then f else fa j) (by omega) (fun j hj => by
      show fa_ok (if j = k then f else fa j)
      by_cases e : j = k
      · rw [if_pos e]; exact h1
      · rw [if_neg e]; exact hf j (by omega)) h3 h4 (fun j hj i hi => by
      by_cases e : j = k
      · subst e
        show ai _ _ _ (fa_b (if j = j then f else fa j) i)
        rw [if_pos rfl]
        exact h6 i hi
      · show ai _ _ _ (fa_b (if j = k then f else fa j) i)
        rw [if_neg e]
        obtain ⟨x, x1, x2⟩ := hr j (by omega) i hi
        exact ⟨x, by rw [h5 _ (by omega) (by omega)]; exact x1, x2⟩)
    exact ⟨fb, c2, g1, h2.tr g2, g3⟩
/-- from the start to the end of the text -/
theorem pa_all (hL : L ≤ 1000) (hT : sy_T (fun _ => 0) [] ga_A0 c) (hE : sy_E0 L xs c) : ∃ (n : Nat) (fa : Fa) (c' : MsC), (2 ≤ n ∧ n ≤ 11) ∧ (∀ j, j < n → fa_ok (fa j)) ∧ rch c c' ∧ sy_T (sy_ev [n]) [] ga_TE c' ∧ pa_K L xs c' ∧ row_ok fa n c'.2.2.1 := by
  obtain ⟨c1, r1, t1, e1, ch1, -⟩ := ga_0_u (Nat.zero_le _) (sy_OC_ok hL hE) sx_0 (sy_b_T (m := []) (fun _ h => (nomatch h)) (by decide +kernel) hT) hE
  have k1 : pa_K L xs c1 := by
    refine ⟨e1, fun e he => ?_, fun e he => ?_, ?_⟩
    · exact sy_b_e (m := []) (fun _ h => (nomatch h)) (List.all_eq_true.mp (show ga_CM.all (sy_bE []) = true by decide +kernel) e he) (sy_lM0_ok (G := ([], [])) sg_0 t1.2.1 (show sy_lM ([], []) (ga_CM.map (sy_suE [])) ga_T0.2.1 = true by decide +kernel) e he)
    · exact sy_b_e (m := []) (fun _ h => (nomatch h)) (List.all_eq_true.mp (show ga_LET.all (sy_bE []) = true by decide +kernel) e he) (sy_lM0_ok (G := ([], [])) sg_0 t1.2.1 (show sy_lM ([], []) (ga_LET.map (sy_suE [])) ga_T0.2.1 = true by decide +kernel) e he)
    · have h1 := t1.2.2.1
      have h2 : sy_n (sy_ev []) (ga_T0.2.2.1) = 54 := sy_n0 rfl
      omega
  obtain ⟨x, x1, x2, t1⟩ := sy_T_top t1
  obtain ⟨n, hn⟩ : ∃ n : Nat, (n : Int) = 2 + x := ⟨(2 + x).toNat, by omega⟩
  have t1 : sy_T (sy_ev [n]) [] _ c1 := sy_b_T (m := []) (fun _ h => (nomatch h)) (by rfl) t1
  have n1 : (2 : Int) ≤ (n : Int) := by omega
  have n2 : (n : Int) ≤ 11 := by omega
  have ga : sy_g (sy_ev [n]) ([(0, 2, 11)], []) := sg_b n1 n2 sg_0
  have t2 : sy_T (sy_ev [n]) [] ga_A1 c1 := by
    obtain ⟨⟨f, q, q1, ⟨f1, f2, f3, f4⟩, hq⟩, h2, h3⟩ := t1
    obtain ⟨w, ws, q2, w1, w2⟩ := f4.cons
    refine ⟨⟨f, q, q1, ⟨f1, f2, f3, ?_⟩, hq⟩, sy_lM0_ok ga h2 (show sy_lM ([(0, 2, 11)], []) (ga_A1.2.1.map (sy_suE [])) ga_T0.2.1 = true by decide +kernel), h3⟩
    rw [q2]
    obtain ⟨y, rfl, hy⟩ := w1
    refine ⟨⟨y, rfl, ?_⟩, w2⟩
    rw [hy, sy_n0 rfl]
    show x = -2 + ((1 : Nat) : Int) * (n : Int)
    omega
  obtain ⟨c2, r2, t2, e2, ch2, -⟩ := ga_1_u (Nat.zero_le _) _ n1 n2 (sy_OC_ok hL e1) sx_0 t2 e1
  have k2 : pa_K L xs c2 := by
    have hne : ∀ a j : Nat, a ≠ 52 → (a < c1.2.2.2.1 ∨ am_EXT ≤ a) → c2.2.2.1 a j = c1.2.2.1 a j := fun a j ha hb => ch2.1 a j hb fun q hq z => by
      rcases List.mem_cons.mp hq with rfl | hq
      · have h9 : sy_n (sy_ev [(n : Int)]) ((4, 52, 0, 0) : SyV) = 52 := sy_n0 rfl
        dsimp only at z
        omega
      · cases hq
    have hme : ∀ M : SyM, M.all (fun e => Nat.beq e.1.2.2.2 0 && !(sy_eq e.1.2.1 52)) = true → sy_me (fun _ => 0) M c1.2 → sy_me (fun _ => 0) M c2.2 := fun M hM h e he => by
      obtain ⟨a1, a2⟩ := Bool.and_eq_true_iff.mp (List.all_eq_true.mp hM e he)
      obtain ⟨q, g1, g2, g3, g4, g5⟩ := h e he
      have hq : q ≠ 52 := fun z => by
        rw [sy_n0 (am_beq a1), z] at g1
        rw [g1] at a2
        cases a2
      exact ⟨q, g1, by rw [ch2.2.1 q g3]; exact g2, g3.imp (fun z => Nat.lt_of_lt_of_le z ch2.2.2) id, fun p hp => by
        obtain ⟨i, i1, i2⟩ := g4 p hp
        exact ⟨i, i1, by rw [hne q i hq g3]; exact i2⟩, fun d hd j hj => by rw [hne q j hq g3]; exact g5 d hd j hj⟩
    exact ⟨e2, hme _ (by decide +kernel) k1.2.1, hme _ (by decide +kernel) k1.2.2.1, Nat.lt_of_lt_of_le k1.2.2.2 ch2.2.2⟩
  obtain ⟨fb, c3, f3, r3, t3, k3, w3⟩ := pa_loop (xs := xs) hL (n := n) ⟨by omega, by omega⟩ n 0 c2 (fun _ => (112, 97, 97)) (by omega) (fun j hj => absurd hj (by omega)) t2 k2 (fun j hj => absurd hj (by omega))
  have t4 : sy_T (sy_ev [n]) [] ga_AE c3 := by
    obtain ⟨⟨f, q, q1, ⟨f1, f2, f3, f4⟩, hq⟩, h2, h3⟩ := t3
    refine ⟨⟨f, q, q1, ⟨f1, f2, fun i a hi => ?_, by rw [f4.nil]; exact trivial⟩, hq⟩, fun e he => ?_, h3⟩
    · have key : ∀ i a, sy_lk (ga_AE.1.head!).2.2.1 i = some a → ∃ b, sy_lk (ga_T32.1.head!).2.2.1 i = some b ∧ (a.1 = b.1 ∧ a.1 < 9) ∧ sy_n (sy_ev [(n : Int)]) a = sy_n (sy_ev [(n : Int), (n : Int)]) b := by
        intro i a h
        match i, h with
        | 0, h => cases h; exact ⟨_, rfl, ⟨rfl, by decide⟩, rfl⟩
        | 1, h => cases h; exact ⟨_, rfl, ⟨rfl, by decide⟩, rfl⟩
        | 2, h => cases h; exact ⟨_, rfl, ⟨rfl, by decide⟩, rfl⟩
        | 3, h => cases h; exact ⟨_, rfl, ⟨rfl, by decide⟩, rfl⟩
        | 4, h => cases h; exact ⟨_, rfl, ⟨rfl, by decide⟩, rfl⟩
        | 5, h => cases h; exact ⟨_, rfl, ⟨rfl, by decide⟩, rfl⟩
        | i + 6, h => cases h
      obtain ⟨b, b1, ⟨b2, b4⟩, b3⟩ := key i a hi
      obtain ⟨w, w1, w2⟩ := f3 i b b1
      exact ⟨w, w1, sy_v_eq b2 b4 b3 w2⟩
    · have hS : sy_me (sy_ev [(n : Int)]) ga_ST13 c3.2 := sy_xE_ok k3.1 (by decide +kernel)
      have h2' : sy_me (sy_ev [(n : Int)]) ga_rE c3.2 := fun e he => by
        rcases List.mem_cons.mp he with rfl | he
        · obtain ⟨k, g1, g2, g3, g4, g5⟩ := h2 _ List.mem_cons_self
          refine ⟨k, g1, g2, g3, fun p hp => ?_, fun d hd => by cases hd⟩
          rcases List.mem_cons.mp hp with rfl | hp
          · obtain ⟨i, i1, i2⟩ := g4 _ List.mem_cons_self
            exact ⟨i, i1, i2⟩
          · cases hp
        · cases he
      exact sy_lM0_ok ga (h2'.app hS) (show sy_lM ([(0, 2, 11)], []) (ga_AE.2.1.map (sy_suE [])) (ga_rE ++ ga_ST13) = true by decide +kernel) e he
  obtain ⟨c4, r4, t5, e4, ch4, -⟩ := ga_8_u (Nat.zero_le _) _ n1 n2 (sy_OC_ok hL k3.1) sx_0 t4 k3.1
  have w8 : sy_n (sy_ev [(n : Int)]) ((0, 1, 0, 9) : SyV) = 1 + 9 * n := by
    show (1 : Int) + ((9 : Nat) : Int) * (n : Int) = _
    omega
  have kk : pa_K L xs c4 ∧ pa_R n c3 c4 := by
    refine pa_keep (pv := sy_ev [(n : Int), (n : Int)]) (k := n) k3 e4 ?_ rfl
    refine ⟨fun a k ha hq => ch4.1 a k ha fun q hq9 z => ?_, ch4.2.1, ch4.2.2⟩
    have h1 := hq _ (show ((4, 52, 0, 0), (0, 0, 0, 0), (0, 0, 0, 0)) ∈ ga_W from List.mem_cons_self)
    have h2 := hq _ (show ((4, 52, 0, 0), (0, 1, 1, 9), (0, 3000, 0, 0)) ∈ ga_W from List.mem_cons_of_mem _ List.mem_cons_self)
    have c1 : ∀ {pv : Nat → Int} (k : Nat) (z : Int), sy_n pv ((k, z, 0, 0) : SyV) = z := fun k z => sy_n0 rfl
    have w9 : sy_n (sy_ev [(n : Int), (n : Int)]) ((0, 1, 1, 9) : SyV) = 1 + 9 * n := by
      show (1 : Int) + ((9 : Nat) : Int) * (n : Int) = _
      omega
    dsimp only at h1 h2
    rw [c1, c1] at h1
    rw [c1, c1, w9] at h2
    rcases List.mem_cons.mp hq9 with rfl | hq9
    · dsimp only at z
      rw [c1, c1] at z
      exact h1 z
    · rcases List.mem_cons.mp hq9 with rfl | hq9
      · dsimp only at z
        rw [c1, c1, w8] at z
        exact h2 z
      · cases hq9
  refine ⟨n, fb, c4, ⟨by omega, by omega⟩, f3, r1.tr (r2.tr (r3.tr r4)), t5, kk.1, fun j hj i hi => ?_⟩
  obtain ⟨x, x1, x2⟩ := w3 j hj i hi
  exact ⟨x, by rw [kk.2 _ (by omega) (by omega)]; exact x1, x2⟩
end PaS
