section SPbk
variable {d d1 d2 r n0 : Nat} {G : GG} {c c' cA cB cA0 cB0 cA' cB' cA1 cB1 : CC} {Q : Option AV → HH → Prop} {v v1 v2 N k p len most stop a b w w' n m to u x y z s : Int} {j i' : Nat} {B f fS : Int → Int}
def BkL (cA cB : CC) (m : Int) : Prop := ∀ i, 0 ≤ i → i < m → (cA 121 i = 7 ∧ cB 192 (3 * i) = 0 ∧ cA 122 i = cB 192 (3 * i + 1) ∧ cA 123 i = cB 192 (3 * i + 2) ∧ (0 ≤ cB 192 (3 * i + 1) ∧ cB 192 (3 * i + 1) < cB 190 1) ∧ 0 ≤ cB 192 (3 * i + 2) ∧ cB 192 (3 * i + 2) < cB 190 0) ∨ (((cA 121 i = 8 ∧ cB 192 (3 * i) = 1) ∨ (cA 121 i = 9 ∧ cB 192 (3 * i) = 2)) ∧ cA 123 i = cB 192 (3 * i + 1) ∧ 1 ≤ cB 192 (3 * i + 1) ∧ cB 192 (3 * i + 1) ≤ 60)
def FAb (cA0 cA : CC) : Prop := (∀ r, ¬ r = 2 → ¬ (5 ≤ r ∧ r ≤ 8) → ¬ (120 ≤ r ∧ r ≤ 123) → cA r = cA0 r) ∧ (∀ i, (i < 7 ∨ 14 < i) → cA 2 i = cA0 2 i) ∧ ∀ i, ¬ i = 2 → cA 120 i = cA0 120 i
def FBb (cB0 cB : CC) : Prop := (∀ r, ¬ r = 188 → ¬ r = 192 → cB r = cB0 r) ∧ ∀ i, (i = 2 ∨ 19 ≤ i) → cB 188 i = cB0 188 i
theorem FAb_V (h : FAb cA0 cA) (f : FrV cA cA') : FAb cA0 cA' := ⟨fun r h1 h2 h3 => (f.1 r h1).trans (h.1 r h1 h2 h3), fun i h1 => (f.2 i (by omega) (by omega) (by omega) (by omega) (by omega)).trans (h.2.1 i h1), fun i h1 => by rw [f.1 120 (by omega)]; exact h.2.2 i h1⟩
theorem FAb_F (h : FAb cA0 cA) (f : FlA cA cA' k p) : FAb cA0 cA' := ⟨fun r h1 h2 h3 => (f.1 r h1).trans (h.1 r h1 h2 h3), fun i h1 => (f.2.1 i (by omega)).trans (h.2.1 i h1), fun i h1 => by rw [f.1 120 (by omega)]; exact h.2.2 i h1⟩
theorem FBb_G (h : FBb cB0 cB) (f : FrG cB cB') : FBb cB0 cB' := ⟨fun r h1 h2 => (f.1 r h1).trans (h.1 r h1 h2), fun i h1 => (f.2 i (by omega) (by omega) (by omega) (by omega) (by omega) (by omega) (by omega)).trans (h.2 i h1)⟩
theorem FBb_F (h : FBb cB0 cB) (f : FlB cB cB' k p) : FBb cB0 cB' := ⟨fun r h1 h2 => (f.1 r h1).trans (h.1 r h1 h2), fun i h1 => (f.2.1 i (by omega) (by omega) (by omega)).trans (h.2 i h1)⟩
theorem FBb_U {i : Int} (h : FBb cB0 cB) : FBb cB0 (q_up cB 192 i v) := ⟨fun q h1 h2 => (up_r (by omega)).trans (h.1 q h1 h2), fun i h1 => (up_n (by omega)).trans (h.2 i h1)⟩
theorem FBb_18 (h : FBb cB0 cB) : FBb cB0 (q_up cB 188 18 v) := ⟨fun q h1 h2 => (up_r (by omega)).trans (h.1 q h1 h2), fun i h1 => (up_n (by omega)).trans (h.2 i h1)⟩
theorem FAb_tr (h : FAb cA0 cA) (f : FAb cA cA') : FAb cA0 cA' := ⟨fun r h1 h2 h3 => (f.1 r h1 h2 h3).trans (h.1 r h1 h2 h3), fun i h1 => (f.2.1 i h1).trans (h.2.1 i h1), fun i h1 => (f.2.2 i h1).trans (h.2.2 i h1)⟩
theorem FAb_refl : FAb cA cA := ⟨fun _ _ _ _ => rfl, fun _ _ => rfl, fun _ _ => rfl⟩
theorem FBb_refl : FBb cB cB := ⟨fun _ _ _ => rfl, fun _ _ => rfl⟩
def TkS (B : Int → Int) (len most stop : Int) (j : Nat) (cA cB : CC) : Prop := TA cA B len stop j ∧ RT cB B len most stop j ∧ (cA 2 9 = if most < len then 1 else 0) ∧ cA 2 14 = 0 ∧ cB 188 15 = 0
theorem TkS_go (h : TkS B len most stop j cA cB) (f : FrV cA cA') (t : TA cA' B len stop i') (g : FrG cB cB') (u : RT cB' B len most stop i') : TkS B len most stop i' cA' cB' :=
  ⟨t, u, by rw [f.2 9 (by omega) (by omega) (by omega) (by omega) (by omega)]; exact h.2.2.1, by rw [f.2 14 (by omega) (by omega) (by omega) (by omega) (by omega)]; exact h.2.2.2.1, by rw [g.2 15 (by omega) (by omega) (by omega) (by omega) (by omega) (by omega) (by omega)]; exact h.2.2.2.2⟩
theorem TkS_B (h : TkS B len most stop j cA cB) (e1 : ∀ i, ¬ i = 18 → cB' 188 i = cB 188 i) (e2 : cB' 189 = cB 189) : TkS B len most stop j cA cB' := by
  obtain ⟨t, ⟨⟨a1, a2, a3, a4, a5, a6, a7⟩, hB, e3, e5⟩, h1, h2, h3⟩ := h
  refine ⟨t, ⟨⟨?_, ?_, ?_, ?_, ?_, ?_, ?_⟩, fun i p1 p2 => by rw [e2]; exact hB i p1 p2, by rw [e1 3 (by omega)]; exact e3, by rw [e1 5 (by omega)]; exact e5⟩, h1, h2, by rw [e1 15 (by omega)]; exact h3⟩
  · rw [e1 11 (by omega)]; exact a1
  · rw [e1 12 (by omega)]; exact a2
  · rw [e1 4 (by omega)]; exact a3
  · rw [e1 4 (by omega)]; exact a4
  · rw [e1 14 (by omega)]; exact a5
  · rw [e1 14 (by omega)]; exact a6
  · rw [e1 17 (by omega)]; exact a7
theorem TkS_A (h : TkS B len most stop j cA cB) (e2 : cA' 2 = cA 2) (e5 : cA' 5 = cA 5) (e6 : cA' 6 = cA 6) (e7 : cA' 7 = cA 7) (e8 : cA' 8 = cA 8) : TkS B len most stop j cA' cB :=
  ⟨TA_fr h.1 e2 e5 e6 e7 e8, h.2.1, by rw [e2]; exact h.2.2.1, by rw [e2]; exact h.2.2.2.1, h.2.2.2.2⟩
def NmS (cA cB : CC) : Prop := (cA 9 0 = cB 190 0 ∧ cA 9 1 = cB 190 1 ∧ 0 ≤ cB 190 0 ∧ cB 190 0 ≤ 6 ∧ 0 ≤ cB 190 1 ∧ cB 190 1 ≤ 8) ∧ (∀ i, 0 ≤ i → i < cB 190 0 → NmR (cA 10 i) (cB 193 (0 + i))) ∧ (∀ i, 0 ≤ i → i < cB 190 1 → NmR (cA 11 i) (cB 193 (6 + i))) ∧ ∀ i, 0 ≤ i → i < 20 → cB 194 i = rsvF i
theorem NmS_fr (h : NmS cA cB) (a1 : cA' 9 = cA 9) (a2 : cA' 10 = cA 10) (a3 : cA' 11 = cA 11) (b1 : cB' 190 = cB 190) (b2 : cB' 193 = cB 193) (b3 : cB' 194 = cB 194) : NmS cA' cB' := by
  unfold NmS
  rw [a1, a2, a3, b1, b2, b3]
  exact h
theorem NmS_b (h : NmS cA0 cB0) (f : FAb cA0 cA) (g : FBb cB0 cB) : NmS cA cB := NmS_fr h (f.1 9 (by omega) (by omega) (by omega)) (f.1 10 (by omega) (by omega) (by omega)) (f.1 11 (by omega) (by omega) (by omega)) (g.1 190 (by omega) (by omega)) (g.1 193 (by omega) (by omega)) (g.1 194 (by omega) (by omega))
def LnB (G : GG) (cA0 cB0 : CC) (B : Int → Int) (len most stop : Int) (j : Nat) (m : Int) (r1 : Option AV) (h1 : HH) (r2 : Option AV) (h2 : HH) : Prop := ∃ cA cB, h1 = (G, cA) ∧ h2 = (G, cB) ∧ FAb cA0 cA ∧ FBb cB0 cB ∧ ((r1 = some (aI 0) ∧ r2 = some (aI 0) ∧ FlX cA cB) ∨ (r1 = some (aI 1) ∧ r2 = some (aI 1) ∧ ∃ j', TkS B len most stop j' cA cB ∧ BkL cA cB (m + 1) ∧ cA 120 2 = m + 1 ∧ m < 30 ∧ PP B len stop j + 1 ≤ PP B len stop j'))
theorem Lb_f (hW : Wt B len most stop) {cA1 cB1 : CC} {i : Nat} (g1 : FAb cA0 cA1) (g2 : FBb cB0 cB1) (h1 : FlA cA1 cA k (pP B len stop i)) (h2 : FlB cB1 cB k (pP B len stop i)) (hk : 1 ≤ k ∧ k ≤ 4) : LnB G cA0 cB0 B len most stop j m (some (aI 0)) (G, cA) (some (aI 0)) (G, cB) :=
  ⟨cA, cB, rfl, rfl, FAb_F g1 h1, FBb_F g2 h2, Or.inl ⟨rfl, rfl, FlX_mk hW h1 h2 hk⟩⟩
theorem Bk_new (h : BkL cA cB m) (hm : 0 ≤ m) (e1 : ∀ i, ¬ i = m → cA' 121 i = cA 121 i) (e2 : ∀ i, ¬ i = m → cA' 122 i = cA 122 i) (e3 : ∀ i, ¬ i = m → cA' 123 i = cA 123 i) (e4 : ∀ i, (i < 3 * m ∨ 3 * m + 2 < i) → cB' 192 i = cB 192 i) (e5 : cB' 190 = cB 190) (hn : (cA' 121 m = 7 ∧ cB' 192 (3 * m) = 0 ∧ cA' 122 m = cB' 192 (3 * m + 1) ∧ cA' 123 m = cB' 192 (3 * m + 2) ∧ (0 ≤ cB' 192 (3 * m + 1) ∧ cB' 192 (3 * m + 1) < cB' 190 1) ∧ 0 ≤ cB' 192 (3 * m + 2) ∧ cB' 192 (3 * m + 2) < cB' 190 0) ∨ (((cA' 121 m = 8 ∧ cB' 192 (3 * m) = 1) ∨ (cA' 121 m = 9 ∧ cB' 192 (3 * m) = 2)) ∧ cA' 123 m = cB' 192 (3 * m + 1) ∧ 1 ≤ cB' 192 (3 * m + 1) ∧ cB' 192 (3 * m + 1) ≤ 60)) : BkL cA' cB' (m + 1) := by
  intro i h1 h2
  by_cases hi : i = m
  · rw [hi]; exact hn
  · rw [e1 i hi, e2 i hi, e3 i hi, e4 (3 * i) (by omega), e4 (3 * i + 1) (by omega), e4 (3 * i + 2) (by omega), e5]
    exact h i h1 (by omega)
theorem FAb_nl (h : FAb cA0 cA) : FAb cA0 (q_up (q_up (q_up (q_up cA 121 m a) 122 m b) 123 m v) 120 2 w) := ⟨fun r h1 h2 h3 => by rw [up_r (by omega), up_r (by omega), up_r (by omega), up_r (by omega)]; exact h.1 r h1 h2 h3, fun i h1 => by rw [up_r (by omega), up_r (by omega), up_r (by omega), up_r (by omega)]; exact h.2.1 i h1, fun i h1 => by rw [up_n (by omega), up_r (by omega), up_r (by omega), up_r (by omega)]; exact h.2.2 i h1⟩
theorem bk_days (hG : Shp G) (hW : Wt B len most stop) (hT : TkS B len most stop (j + 1) cA cB) (fA : FAb cA0 cA) (fB : FBb cB0 cB) (hL : BkL cA cB m) (h120 : cA 120 2 = m) (h36 : cB 188 36 = m) (hm : 0 ≤ m ∧ m < 30) (hp : PP B len stop i' + 1 ≤ PP B len stop (j + 1)) (ha : (a = 8 ∧ cB 192 (3 * m) = 1) ∨ (a = 9 ∧ cB 192 (3 * m) = 2)) : T (d1 + 8) 9 99 [some (aR 120), some (aI a), some (aI (-1)), none] [] (G, cA) (QM (fun r1 y1 => T (d2 + 8) 248 67 [some (aR 188), some (aI (3 * m))] [] (G, cB) (QM (fun r2 y2 => LnB G cA0 cB0 B len most stop i' m r1 y1 r2 y2)))) := by
  by_cases hc : zS B len stop (j + 1) = 3 ∧ 1 ≤ pN B len stop (j + 1) ∧ pN B len stop (j + 1) ≤ 60
  · have hp2 := PP_up hW (j + 1) (by rw [hc.1]; omega)
    refine b9_99 hG (by intros; omega) ?_ rfl ?_ ?_
    · intro q1 q2
      refine c_takeNum hG hW hT.1 (by omega) (by omega) (fun _ _ _ cA2 f2 t2 => sw ?_) (fun x => absurd hc x)
      refine b248_67 hG ?_
      refine r_takes hG hW hT.2.1 (by omega) (by omega) (fun _ _ _ cB2 g2 u2 e18 => ?_) (fun x => absurd hc x)
      refine b248_74 hG (by intros; omega) (e18) (by intros; omega) (by intros; omega) ?_ ?_
      · intro z
        have e2 : cA2 120 2 = m := by rw [f2.1 120 (by omega)]; exact h120
        have hT2 := TkS_go hT f2 t2 g2 u2
        refine b9_159 hG (by intros; omega) (e2) (by intros; omega) (by intros; omega) ((up_n (by omega)).trans e2) (by intros; omega) (by intros; omega) ((up_n (by omega)).trans ((up_n (by omega)).trans e2)) (by intros; omega) (by intros; omega) ((up_n (by omega)).trans ((up_n (by omega)).trans ((up_n (by omega)).trans e2))) ?_ ?_
        · intro z2
          refine ⟨_, _, rfl, rfl, FAb_nl (FAb_V fA f2), FBb_U (FBb_G fB g2), Or.inr ⟨rfl, rfl, j + 1 + 1, TkS_A (TkS_B hT2 (fun i _ => up_n (by omega)) (up_r (by omega))) (by rw [up_r (by omega), up_r (by omega), up_r (by omega), up_r (by omega)]) (by rw [up_r (by omega), up_r (by omega), up_r (by omega), up_r (by omega)]) (by rw [up_r (by omega), up_r (by omega), up_r (by omega), up_r (by omega)]) (by rw [up_r (by omega), up_r (by omega), up_r (by omega), up_r (by omega)]) (by rw [up_r (by omega), up_r (by omega), up_r (by omega), up_r (by omega)]), ?_, up_e, hm.2, by omega⟩⟩
          have r121 : cA2 121 = cA 121 := f2.1 121 (by omega)
          have r122 : cA2 122 = cA 122 := f2.1 122 (by omega)
          have r123 : cA2 123 = cA 123 := f2.1 123 (by omega)
          have s192 : cB2 192 = cB 192 := g2.1 192 (by omega)
          refine Bk_new hL hm.1 (fun i hi => ?_) (fun i hi => ?_) (fun i hi => ?_) (fun i hi => ?_) ?_ (Or.inr ⟨?_, ?_, ?_⟩)
          · rw [up_n (by omega), up_n (by omega), up_n (by omega), up_n (by omega), r121]
          · rw [up_n (by omega), up_n (by omega), up_n (by omega), up_n (by omega), r122]
          · rw [up_n (by omega), up_n (by omega), up_n (by omega), up_n (by omega), r123]
          · rw [up_n (by omega), s192]
          · rw [up_r (by omega), g2.1 190 (by omega)]
          · rw [up_n (by omega), up_n (by omega), up_n (by omega), up_e, up_n (by omega), s192]; exact ha
          · rw [up_n (by omega), up_e, up_e]
          · rw [up_e]; exact hc.2
        · intro z2; omega
      · intro z; omega
    · intro q1 q2; omega
    · intro q1; omega
  · refine b9_99 hG (by intros; omega) ?_ rfl ?_ ?_
    · intro q1 q2
      refine c_takeNum hG hW hT.1 (by omega) (by omega) (fun x1 x2 x3 => absurd ⟨x1, x2, x3⟩ hc) (fun _ cA2 f2 => ?_)
      refine b9_159 hG (by intros; omega) rfl (by intros; omega) (by intros; omega) (up_n (by omega)) (by intros; omega) (by intros; omega) ((up_n (by omega)).trans (up_n (by omega))) (by intros; omega) (by intros; omega) ((up_n (by omega)).trans ((up_n (by omega)).trans (up_n (by omega)))) ?_ ?_
      · intro z2; omega
      · intro z2
        refine b248_67 hG ?_
        refine r_takes hG hW hT.2.1 (by omega) (by omega) (fun x1 x2 x3 => absurd ⟨x1, x2, x3⟩ hc) (fun _ cB2 g2 => ?_)
        refine b248_74 hG (by intros; omega) rfl (by intros; omega) (by intros; omega) ?_ ?_
        · intro z; omega
        · intro z
          exact Lb_f hW fA fB f2 g2 fN_b
    · intro q1 q2; omega
    · intro q1; omega
theorem bk_line (hG : Shp G) (hW : Wt B len most stop) (hT : TkS B len most stop j cA cB) (hN : NmS cA cB) (fA : FAb cA0 cA) (fB : FBb cB0 cB) (hL : BkL cA cB m) (h120 : cA 120 2 = m) (h36 : cB 188 36 = m) (hm : 0 ≤ m ∧ m ≤ 30) (h0 : ¬ zS B len stop j = 0) : TM (d1 + 8) 9 [aR 120] (G, cA) (fun r1 y1 => TM (d2 + 8) 248 [aR 188] (G, cB) (fun r2 y2 => LnB G cA0 cB0 B len most stop j m r1 y1 r2 y2)) := by
  have hp := PP_up hW j h0
  obtain ⟨⟨c1, c2, c3, c4, c5, c6⟩, nK, nS, hv⟩ := hN
  refine b9_0 hG ?_
  refine c_isKey hG hW hT.1 (by omega) ?_
  by_cases k8 : zS B len stop j = 2 ∧ pN B len stop j = 8
  · rw [if_pos k8]
    by_cases h30 : m < 30
    · refine b9_9 hG TM_eqo (by intros; omega) ?_ (h120) (by intros; omega) ?_ ?_
      · intro q; omega
      · intro q1 q2
        refine c_advance hG hT.1 (fun cA1 f1 t1 => ?_)
        refine sw ?_
        refine b248_0 hG (h36) ?_
        refine r_isWord hG hW hT.2.1 8 (by omega) (by omega) (by decide +kernel) ?_
        rw [if_pos k8]
        refine b248_14 hG TM_eqo (by intros; omega) (h36) (by intros; omega) ?_ ?_ ?_
        · intro z1 z2
          refine r_isWord hG hW hT.2.1 8 (by omega) (by omega) (by decide +kernel) ?_
          rw [if_pos k8]
          refine b248_54 hG (by intros; omega) (by intros; omega) (by intros; omega) ?_ (by intros; omega) (by intros; omega) ?_
          · intro z3; omega
          · intro z3
            refine r_advance hG (RT_row hT.2.1 (by omega) (by omega)) hW.1 hW.2.1 hW.2.2.1 (fun cB1 g1 u1 => sw ?_)
            exact bk_days (cB := cB1) hG hW (TkS_go (TkS_B hT (fun i _ => up_n (by omega)) (up_r (by omega))) f1 t1 (FrG_N g1) u1) (FAb_V fA f1) (FBb_G (FBb_U fB) (FrG_N g1)) (fun i p1 p2 => by
              have := hL i p1 p2
              rw [f1.1 121 (by omega), f1.1 122 (by omega), f1.1 123 (by omega), g1.1 192 (by omega), g1.1 190 (by omega), up_n (by omega), up_n (by omega), up_n (by omega), up_r (by omega)]
              exact this) (by rw [f1.1 120 (by omega)]; exact h120) (by rw [g1.2 36 (by omega) (by omega) (by omega) (by omega) (by omega) (by omega), up_n (by omega)]; exact h36) ⟨hm.1, h30⟩ hp.2.1 (Or.inl ⟨rfl, by rw [g1.1 192 (by omega), up_e]⟩)
        · intro z1 z2; omega
        · intro z1; omega
      · intro q1 q2; omega
    · refine b9_9 hG TM_eqo (by intros; omega) ?_ (h120) (by intros; omega) ?_ ?_
      · intro q; omega
      · intro q1 q2; omega
      · intro q1 q2
        refine c_ref hG hT.1 (fun cA1 f1 => ?_)
        refine b9_91 hG (Or.inl rfl) ?_
        refine b248_0 hG (h36) ?_
        refine r_isWord hG hW hT.2.1 8 (by omega) (by omega) (by decide +kernel) ?_
        rw [if_pos k8]
        refine b248_14 hG TM_eqo (by intros; omega) (h36) (by intros; omega) ?_ ?_ ?_
        · intro z1 z2; omega
        · intro z1 z2
          refine r_bad hG hT.2.1 (fun cB1 g1 => ?_)
          refine b248_41 hG (Or.inl rfl) ?_
          exact Lb_f hW fA fB f1 g1 (by omega)
        · intro z1; omega
  · rw [if_neg k8]
    refine b9_9 hG TM_eqo (by intros; omega) ?_ rfl (by intros; omega) ?_ ?_
    rotate_left
    · intro q; omega
    · intro q; omega
    intro _
    refine c_isKey hG hW hT.1 (by omega) ?_
    by_cases k9 : zS B len stop j = 2 ∧ pN B len stop j = 9
    · rw [if_pos k9]
      by_cases h30 : m < 30
      · refine b9_26 hG TM_eqo (by intros; omega) rfl ?_ (h120) (by intros; omega) ?_ ?_
        · intro q; omega
        · intro q1 q2
          refine c_advance hG hT.1 (fun cA1 f1 t1 => ?_)
          refine sw ?_
          refine b248_0 hG (h36) ?_
          refine r_isWord hG hW hT.2.1 8 (by omega) (by omega) (by decide +kernel) ?_
          rw [if_neg k8]
          refine b248_14 hG TM_eqo (by intros; omega) rfl (by intros; omega) ?_ ?_ ?_
          · intro z; omega
          · intro z; omega
          · intro z
            refine r_isWord hG hW hT.2.1 9 (by omega) (by omega) (by decide +kernel) ?_
            rw [if_pos k9]
            refine b248_24 hG TM_eqo (by intros; omega) rfl ?_ (h36) (by intros; omega) ?_ ?_
            · intro z; omega
            · intro z1 z2
              refine r_isWord hG hW hT.2.1 8 (by omega) (by omega) (by decide +kernel) ?_
              rw [if_neg k8]
              refine b248_54 hG (by intros; omega) (by intros; omega) (by intros; omega) ?_ (by intros; omega) (by intros; omega) ?_
              · intro z3
                refine r_advance hG (RT_row hT.2.1 (by omega) (by omega)) hW.1 hW.2.1 hW.2.2.1 (fun cB1 g1 u1 => sw ?_)
                exact bk_days (cB := cB1) hG hW (TkS_go (TkS_B hT (fun i _ => up_n (by omega)) (up_r (by omega))) f1 t1 (FrG_N g1) u1) (FAb_V fA f1) (FBb_G (FBb_U fB) (FrG_N g1)) (fun i p1 p2 => by
                  have := hL i p1 p2
                  rw [f1.1 121 (by omega), f1.1 122 (by omega), f1.1 123 (by omega), g1.1 192 (by omega), g1.1 190 (by omega), up_n (by omega), up_n (by omega), up_n (by omega), up_r (by omega)]
                  exact this) (by rw [f1.1 120 (by omega)]; exact h120) (by rw [g1.2 36 (by omega) (by omega) (by omega) (by omega) (by omega) (by omega), up_n (by omega)]; exact h36) ⟨hm.1, h30⟩ hp.2.1 (Or.inr ⟨rfl, by rw [g1.1 192 (by omega), up_e]⟩)
              · intro z3; omega
            · intro z1 z2; omega
        · intro q1 q2; omega
      · refine b9_26 hG TM_eqo (by intros; omega) rfl ?_ (h120) (by intros; omega) ?_ ?_
        · intro q; omega
        · intro q1 q2; omega
        · intro q1 q2
          refine c_ref hG hT.1 (fun cA1 f1 => ?_)
          refine b9_91 hG (Or.inl rfl) ?_
          refine b248_0 hG (h36) ?_
          refine r_isWord hG hW hT.2.1 8 (by omega) (by omega) (by decide +kernel) ?_
          rw [if_neg k8]
          refine b248_14 hG TM_eqo (by intros; omega) rfl (by intros; omega) ?_ ?_ ?_
          · intro z; omega
          · intro z; omega
          · intro z
            refine r_isWord hG hW hT.2.1 9 (by omega) (by omega) (by decide +kernel) ?_
            rw [if_pos k9]
            refine b248_24 hG TM_eqo (by intros; omega) rfl ?_ (h36) (by intros; omega) ?_ ?_
            · intro z; omega
            · intro z1 z2; omega
            · intro z1 z2
              refine r_bad hG hT.2.1 (fun cB1 g1 => ?_)
              refine b248_41 hG (Or.inl rfl) ?_
              exact Lb_f hW fA fB f1 g1 (by omega)
    · rw [if_neg k9]
      refine b9_26 hG TM_eqo (by intros; omega) (c2) ?_ rfl (by intros; omega) ?_ ?_
      rotate_left
      · intro q; omega
      · intro q; omega
      intro _
      have pb := pF_b (B := B) (len := len) (stop := stop) (j := j) (f := cA 11) c5
      have step : ∀ (K : Option AV → HH → Prop), (TM (d2 + 7) 181 [aR 188, aI 6, aI (cB 190 1)] (G, cB) (fun r h' => T (d2 + 8) 248 105 [some (aR 188), some (aI (3 * m))] (r.toList ++ []) h' (QM K))) → TM (d2 + 8) 248 [aR 188] (G, cB) K := by
        intro K hk
        refine b248_0 hG (h36) ?_
        refine r_isWord hG hW hT.2.1 8 (by omega) (by omega) (by decide +kernel) ?_
        rw [if_neg k8]
        refine b248_14 hG TM_eqo (by intros; omega) rfl (by intros; omega) ?_ ?_ ?_
        · intro z; omega
        · intro z; omega
        · intro z
          refine r_isWord hG hW hT.2.1 9 (by omega) (by omega) (by decide +kernel) ?_
          rw [if_neg k9]
          refine b248_24 hG TM_eqo (by intros; omega) rfl ?_ rfl (by intros; omega) ?_ ?_
          · intro z; exact hk
          · intro z1 z2; omega
          · intro z1 z2; omega
      by_cases hc : zS B len stop j = 1 ∧ ¬ pF B len stop j (cA 11) (cB 190 1) = -1
      · refine c_nameHere hG hW hT.1 (f := cA 11) (n0 := 8) (sh_ok hG (by decide +kernel)) (sh_ln hG (by decide +kernel)) (by omega) c5 (by omega) (fun i g1 g2 => ⟨rfl, NmR_64 (nS i g1 g2)⟩) (fun _ _ => sw (step _ ?_)) (fun x => absurd hc x)
        refine r_looksAt hG hW hT.2.1 hv (f := cA 11) (by omega) nS (fun _ _ => ?_) (fun x => absurd hc x)
        obtain ⟨s, hs⟩ : ∃ s, s = pF B len stop j (cA 11) (cB 190 1) := ⟨_, rfl⟩
        rw [← hs] at pb hc ⊢
        have b0 : 0 ≤ s ∧ s < cB 190 1 := by omega
        clear hs pb
        have e36 : (q_up cB 188 18 s) 188 36 = m := (up_n (by omega)).trans h36
        by_cases h30 : m < 30
        · refine b248_105 hG TM_eqo (by intros; omega) (e36) (by intros; omega) (by intros; omega) (by intros; omega) ((up_n (by omega)).trans up_e) (by intros; omega) (by intros; omega) ?_ ?_ ?_
          · intro z1 z2
            refine r_advance hG (RT_row (RT_row (RT_up hT.2.1 (by omega)) (by omega) (by omega)) (by omega) (by omega)) hW.1 hW.2.1 hW.2.2.1 (fun cB1 g1 u1 => sw ?_)
            refine b9_66 hG TM_eqo (by intros; omega) (h120) (by intros; omega) ?_ ?_ ?_
            · intro q1 q2
              refine c_advance hG hT.1 (fun cA1 f1 t1 => ?_)
              have hT1 := TkS_go (TkS_B (TkS_B (TkS_B hT (cB' := q_up cB 188 18 s) (fun i h => up_n (by omega)) (up_r (by omega))) (cB' := q_up (q_up cB 188 18 s) 192 (3 * m) 0) (fun i _ => up_n (by omega)) (up_r (by omega))) (cB' := q_up (q_up (q_up cB 188 18 s) 192 (3 * m) 0) 192 (3 * m + 1) s) (fun i _ => up_n (by omega)) (up_r (by omega))) f1 t1 (FrG_N g1) u1
              have fA1 := FAb_V fA f1
              have fB1 := FBb_G (FBb_U (i := 3 * m + 1) (v := s) (FBb_U (i := 3 * m) (v := 0) (FBb_18 (v := s) fB))) (FrG_N g1)
              have r192 : cB1 192 = q_u1 (q_u1 (cB 192) (3 * m) 0) (3 * m + 1) s := by rw [g1.1 192 (by omega), up_er, up_er, up_r (by omega)]
              have r190 : cB1 190 = cB 190 := by rw [g1.1 190 (by omega), up_r (by omega), up_r (by omega), up_r (by omega)]
              have r193 : cB1 193 = cB 193 := by rw [g1.1 193 (by omega), up_r (by omega), up_r (by omega), up_r (by omega)]
              have r194 : cB1 194 = cB 194 := by rw [g1.1 194 (by omega), up_r (by omega), up_r (by omega), up_r (by omega)]
              by_cases hk : zS B len stop (j + 1) = 2 ∧ pN B len stop (j + 1) = 7
              · refine b9_99 hG (by intros; omega) ?_ rfl ?_ ?_
                · intro q3 q4; omega
                · intro q3 q4; omega
                · intro q3
                  refine c_takeKey hG hW t1 (by omega) (fun _ cA2 f2 t2 => sw ?_) (fun x => absurd hk x)
                  have hp2 := PP_up hW (j + 1) (by rw [hk.1]; omega)
                  refine b248_148 hG ?_
                  refine r_isWord hG hW u1 7 (by omega) (by omega) (by decide +kernel) ?_
                  rw [if_pos hk]
                  refine b248_155 hG TM_eqo (by intros; omega) ?_ ?_
                  · intro z3
                    refine r_advance hG u1 hW.1 hW.2.1 hW.2.2.1 (fun cB2 g2 u2 => ?_)
                    have hT2 := TkS_go hT1 f2 t2 (FrG_N g2) u2
                    have e0 : cB2 190 0 = cB 190 0 := by rw [g2.1 190 (by omega), r190]
                    have nK2 : ∀ i, 0 ≤ i → i < cB 190 0 → NmR (cA 10 i) (cB2 193 (0 + i)) := fun i p1 p2 => by rw [g2.1 193 (by omega), r193]; exact nK i p1 p2
                    have hv2 : ∀ i, 0 ≤ i → i < 20 → cB2 194 i = rsvF i := fun i p1 p2 => by rw [g2.1 194 (by omega), r194]; exact hv i p1 p2
                    have c10 : ∀ i, 0 ≤ i → i < cB 190 0 → cA2 10 i = cA 10 i ∧ I64 (cA 10 i) := fun i p1 p2 => ⟨by rw [f2.1 10 (by omega), f1.1 10 (by omega)], NmR_64 (nK i p1 p2)⟩
                    have pb := pF_b (B := B) (len := len) (stop := stop) (j := j + 1 + 1) (f := cA 10) c3
                    refine b248_168 hG (e0) ?_
                    by_cases hc2 : zS B len stop (j + 1 + 1) = 1 ∧ ¬ pF B len stop (j + 1 + 1) (cA 10) (cB 190 0) = -1
                    · refine r_looksAt hG hW u2 hv2 (f := cA 10) (by omega) nK2 (fun _ _ => ?_) (fun x => absurd hc2 x)
                      have hp3 := PP_up hW (j + 1 + 1) (by rw [hc2.1]; omega)
                      obtain ⟨t, ht⟩ : ∃ t, t = pF B len stop (j + 1 + 1) (cA 10) (cB 190 0) := ⟨_, rfl⟩
                      have b1 : 0 ≤ t ∧ t < cB 190 0 := by omega
                      rw [← ht]
                      refine b248_179 hG TM_eqo (by intros; omega) (up_e) (by intros; omega) (by intros; omega) ?_ ?_
                      · intro z4
                        refine r_advance hG (RT_row (RT_up u2 (by omega)) (by omega) (by omega)) hW.1 hW.2.1 hW.2.2.1 (fun cB3 g3 u3 => ?_)
                        refine b248_200 hG ?_
                        refine b9_114 hG (by intros; omega) (by intros; omega) ?_ ((congrFun (f2.1 9 (by omega)) 0).trans ((congrFun (f1.1 9 (by omega)) 0).trans c1)) ?_ ?_
                        · intro q5 q6; omega
                        · intro q5 q6
                          refine c_takeName hG hW t2 (f := cA 10) (n0 := 6) (sh_ok hG (by decide +kernel)) (sh_ln hG (by decide +kernel)) (by omega) c3 (by omega) c10 (fun _ _ cA3 f3 t3 => ?_) (fun x => absurd hc2 x)
                          rw [← ht]
                          refine b9_146 hG ?_
                          have e2 : cA3 120 2 = m := by rw [f3.1 120 (by omega), f2.1 120 (by omega), f1.1 120 (by omega)]; exact h120
                          refine b9_159 hG (by intros; omega) (e2) (by intros; omega) (by intros; omega) ((up_n (by omega)).trans e2) (by intros; omega) (by intros; omega) ((up_n (by omega)).trans ((up_n (by omega)).trans e2)) (by intros; omega) (by intros; omega) ((up_n (by omega)).trans ((up_n (by omega)).trans ((up_n (by omega)).trans e2))) ?_ ?_
                          · intro q7
                            have hT3 := TkS_go (TkS_B (TkS_B hT2 (cB' := q_up cB2 188 18 t) (fun i h => up_n (by omega)) (up_r (by omega))) (cB' := q_up (q_up cB2 188 18 t) 192 (3 * m + 2) t) (fun i _ => up_n (by omega)) (up_r (by omega))) f3 t3 (FrG_N g3) u3
                            refine ⟨_, _, rfl, rfl, FAb_nl (FAb_V (FAb_V fA1 f2) f3), FBb_G (FBb_U (FBb_18 (FBb_G fB1 (FrG_N g2)))) (FrG_N g3), Or.inr ⟨rfl, rfl, j + 1 + 1 + 1, TkS_A hT3 (by rw [up_r (by omega), up_r (by omega), up_r (by omega), up_r (by omega)]) (by rw [up_r (by omega), up_r (by omega), up_r (by omega), up_r (by omega)]) (by rw [up_r (by omega), up_r (by omega), up_r (by omega), up_r (by omega)]) (by rw [up_r (by omega), up_r (by omega), up_r (by omega), up_r (by omega)]) (by rw [up_r (by omega), up_r (by omega), up_r (by omega), up_r (by omega)]), ?_, up_e, h30, by omega⟩⟩
                            have r121 : cA3 121 = cA 121 := by rw [f3.1 121 (by omega), f2.1 121 (by omega), f1.1 121 (by omega)]
                            have r122 : cA3 122 = cA 122 := by rw [f3.1 122 (by omega), f2.1 122 (by omega), f1.1 122 (by omega)]
                            have r123 : cA3 123 = cA 123 := by rw [f3.1 123 (by omega), f2.1 123 (by omega), f1.1 123 (by omega)]
                            have s192 : cB3 192 = q_u1 (q_u1 (q_u1 (cB 192) (3 * m) 0) (3 * m + 1) s) (3 * m + 2) t := by rw [g3.1 192 (by omega), up_er, up_r (by omega), g2.1 192 (by omega), r192]
                            have s190 : cB3 190 = cB 190 := by rw [g3.1 190 (by omega), up_r (by omega), up_r (by omega), g2.1 190 (by omega), r190]
                            have w0 : cB3 192 (3 * m) = 0 := by rw [s192, u1_n (by omega), u1_n (by omega), u1_e]
                            have w1 : cB3 192 (3 * m + 1) = s := by rw [s192, u1_n (by omega), u1_e]
                            have w2 : cB3 192 (3 * m + 2) = t := by rw [s192, u1_e]
                            refine Bk_new hL hm.1 (fun i hi => ?_) (fun i hi => ?_) (fun i hi => ?_) (fun i hi => ?_) s190 (Or.inl ⟨?_, w0, ?_, ?_, ?_, ?_⟩)
                            · rw [up_n (by omega), up_n (by omega), up_n (by omega), up_n (by omega), r121]
                            · rw [up_n (by omega), up_n (by omega), up_n (by omega), up_n (by omega), r122]
                            · rw [up_n (by omega), up_n (by omega), up_n (by omega), up_n (by omega), r123]
                            · rw [s192, u1_n (by omega), u1_n (by omega), u1_n (by omega)]
                            · rw [up_n (by omega), up_n (by omega), up_n (by omega), up_e]
                            · rw [up_n (by omega), up_n (by omega), up_e, w1]
                            · rw [up_n (by omega), up_e, w2]
                            · rw [w1, s190]; exact b0
                            · rw [w2, s190]; exact b1
                          · intro q7; omega
                        · intro q5; omega
                      · intro z4; omega
                    · refine r_looksAt hG hW u2 hv2 (f := cA 10) (by omega) nK2 (fun x1 x2 => absurd ⟨x1, x2⟩ hc2) (fun _ cB3 g3 => ?_)
                      refine b248_179 hG TM_eqo (by intros; omega) rfl (by intros; omega) (by intros; omega) ?_ ?_
                      · intro z4; omega
                      · intro z4
                        refine b9_114 hG (by intros; omega) (by intros; omega) ?_ ((congrFun (f2.1 9 (by omega)) 0).trans ((congrFun (f1.1 9 (by omega)) 0).trans c1)) ?_ ?_
                        · intro q5 q6; omega
                        · intro q5 q6
                          refine c_takeName hG hW t2 (f := cA 10) (n0 := 6) (sh_ok hG (by decide +kernel)) (sh_ln hG (by decide +kernel)) (by omega) c3 (by omega) c10 (fun x1 x2 => absurd ⟨x1, x2⟩ hc2) (fun _ cA3 f3 => ?_)
                          refine b9_146 hG ?_
                          refine b9_159 hG (by intros; omega) rfl (by intros; omega) (by intros; omega) (up_n (by omega)) (by intros; omega) (by intros; omega) ((up_n (by omega)).trans (up_n (by omega))) (by intros; omega) (by intros; omega) ((up_n (by omega)).trans ((up_n (by omega)).trans (up_n (by omega)))) ?_ ?_
                          · intro q7; omega
                          · intro q7
                            exact Lb_f hW (FAb_V fA1 f2) (FBb_G fB1 (FrG_N g2)) f3 g3 fM_b
                        · intro q5; omega
                  · intro z3; omega
              · refine b9_99 hG (by intros; omega) ?_ rfl ?_ ?_
                · intro q3 q4; omega
                · intro q3 q4; omega
                · intro q3
                  refine c_takeKey hG hW t1 (by omega) (fun x => absurd x hk) (fun _ cA2 f2 => ?_)
                  refine b9_114 hG (by intros; omega) (by intros; omega) ?_ rfl ?_ ?_
                  · intro q5 q6; omega
                  · intro q5 q6; omega
                  · intro q5
                    refine b248_148 hG ?_
                    refine r_isWord hG hW u1 7 (by omega) (by omega) (by decide +kernel) ?_
                    rw [if_neg hk]
                    refine b248_155 hG TM_eqo (by intros; omega) ?_ ?_
                    · intro z3; omega
                    · intro z3
                      refine r_bad hG u1 (fun cB2 g2 => ?_)
                      refine b248_163 hG (Or.inl rfl) ?_
                      exact Lb_f hW fA1 fB1 f2 g2 (by omega)
            · intro q1 q2; omega
            · intro q1; omega
          · intro z1 z2; omega
          · intro z1; omega
        · refine b248_105 hG TM_eqo (by intros; omega) (e36) (by intros; omega) (by intros; omega) (by intros; omega) ((up_n (by omega)).trans up_e) (by intros; omega) (by intros; omega) ?_ ?_ ?_
          · intro z1 z2; omega
          · intro z1 z2
            refine r_bad hG (RT_up hT.2.1 (by omega)) (fun cB1 g1 => ?_)
            refine b248_124 hG (Or.inl rfl) ?_
            refine b9_66 hG TM_eqo (by intros; omega) (h120) (by intros; omega) ?_ ?_ ?_
            · intro q1 q2; omega
            · intro q1 q2
              refine c_ref hG hT.1 (fun cA1 f1 => ?_)
              refine b9_91 hG (Or.inl rfl) ?_
              exact Lb_f hW fA (FBb_18 fB) f1 g1 (by omega)
            · intro q1; omega
          · intro z1; omega
      · refine c_nameHere hG hW hT.1 (f := cA 11) (n0 := 8) (sh_ok hG (by decide +kernel)) (sh_ln hG (by decide +kernel)) (by omega) c5 (by omega) (fun i g1 g2 => ⟨rfl, NmR_64 (nS i g1 g2)⟩) (fun x1 x2 => absurd ⟨x1, x2⟩ hc) (fun _ cA1 f1 => ?_)
        refine b9_66 hG TM_eqo (by intros; omega) rfl (by intros; omega) ?_ ?_ ?_
        · intro q1 q2; omega
        · intro q1 q2; omega
        · intro q1
          refine step _ ?_
          refine r_looksAt hG hW hT.2.1 hv (f := cA 11) (by omega) nS (fun x1 x2 => absurd ⟨x1, x2⟩ hc) (fun _ cB1 g1 => ?_)
          refine b248_105 hG TM_eqo (by intros; omega) rfl (by intros; omega) (by intros; omega) (by intros; omega) (up_n (by omega)) (by intros; omega) (by intros; omega) ?_ ?_ ?_
          · intro z1 z2; omega
          · intro z1 z2; omega
          · intro z1
            exact Lb_f hW fA fB f1 g1 fM_b
end SPbk
