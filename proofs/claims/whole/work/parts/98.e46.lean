section SPsk
variable {r n0 : Nat} {G : GG} {c c' cA cB cA' cB' cA0 cB0 : CC} {Q : Option AV → HH → Prop} {v v1 v2 N k m s t t0 w dep q pa po D sg s0 x y u len most stop p key lf : Int} {j i' d2 : Nat} {S : SS} {B bs bs' dp : Int → Int}
def HD (G : GG) (d2 : Nat) (cB : CC) (K : Option AV → HH → Prop) : Prop := T (d2 + 12) 258 48 [some (aR 188), some (aI 1), none] [] (G, cB) (QM K)
def SF (G : GG) (cA0 cB0 : CC) (F : Option AV → HH → Option AV → HH → Prop) : Prop := ∀ cA cB, FAs cA0 cA → FBs cB0 cB → FlX cA cB → F (some (aI 0)) (G, cA) (some (aI ((-1) - cB 188 16))) (G, cB)
def Pg (cA cB : CC) (B : Int → Int) (len stop : Int) (j : Nat) (cA' cB' : CC) (j' : Nat) : Prop := cB' 188 44 = 1 ∧ cB 188 41 + 1 ≤ cB' 188 41 ∧ cA' 48 6 + 1 ≤ cA 48 6 + 2 * (cB' 188 41 - cB 188 41) ∧ PP B len stop j + 1 ≤ PP B len stop j'
def ROne (G : GG) (d2 : Nat) (cA0 cB0 : CC) (B : Int → Int) (len most stop : Int) (n : Nat) : Prop := ∀ (d j : Nat) (t0 : Int) (bs : Int → Int) (dep D : Int) (cA cB : CC) (F : Option AV → HH → Option AV → HH → Prop), 941 - PP B len stop j ≤ n → 4 * (10 - dep) + 6 ≤ (d : Int) → Sen cA0 cB0 B len most stop j t0 bs dep 0 0 0 D cA cB → cB 188 44 = 0 → SF G cA0 cB0 F → (∀ j' q cA' cB', Sen cA0 cB0 B len most stop j' t0 bs dep q 0 0 (D + 1) cA' cB' → Pg cA cB B len stop j cA' cB' j' → HD G d2 cB' (fun r2 y2 => F (some (aI 1)) (G, cA') r2 y2)) → TM d 85 [aR 48, aI dep] (G, cA) (fun r1 y1 => HD G d2 cB (fun r2 y2 => F r1 y1 r2 y2))
def RAll (G : GG) (d2 : Nat) (cA0 cB0 : CC) (B : Int → Int) (len most stop : Int) (n : Nat) : Prop := ∀ (d j : Nat) (t0 : Int) (bs : Int → Int) (dep D : Int) (cA cB : CC) (F : Option AV → HH → Option AV → HH → Prop), 941 - PP B len stop j ≤ n → 4 * (10 - dep) + 7 ≤ (d : Int) → Sen cA0 cB0 B len most stop j t0 bs dep 0 0 0 D cA cB → (t0 = 0 ∨ (¬ bs (t0 - 1) = 20 ∧ ¬ bs (t0 - 1) = 21)) → t0 ≤ 3 * dep - 2 → cB 188 44 = 0 → SF G cA0 cB0 F → (∀ j' q pa cA' cB', Sen cA0 cB0 B len most stop j' t0 bs dep q pa 0 (D + 1) cA' cB' → Pg cA cB B len stop j cA' cB' j' → ¬ (zS B len stop j' = 2 ∧ pN B len stop j' = 11) → HD G d2 cB' (fun r2 y2 => F (some (aI 1)) (G, cA') r2 y2)) → TM d 84 [aR 48, aI dep] (G, cA) (fun r1 y1 => HD G d2 cB (fun r2 y2 => F r1 y1 r2 y2))
def RCond (G : GG) (d2 : Nat) (cA0 cB0 : CC) (B : Int → Int) (len most stop : Int) (n : Nat) : Prop := ∀ (d j : Nat) (t0 : Int) (bs : Int → Int) (dep D : Int) (cA cB : CC) (F : Option AV → HH → Option AV → HH → Prop), 941 - PP B len stop j ≤ n → 4 * (10 - dep) + 8 ≤ (d : Int) → Sen cA0 cB0 B len most stop j t0 bs dep 0 0 0 D cA cB → (t0 = 0 ∨ bs (t0 - 1) = 23) → t0 ≤ 3 * dep - 3 → cB 188 44 = 0 → SF G cA0 cB0 F → (∀ j' q pa po cA' cB', Sen cA0 cB0 B len most stop j' t0 bs dep q pa po (D + 1) cA' cB' → Pg cA cB B len stop j cA' cB' j' → ¬ (zS B len stop j' = 2 ∧ pN B len stop j' = 11) → ¬ (zS B len stop j' = 2 ∧ pN B len stop j' = 10) → HD G d2 cB' (fun r2 y2 => F (some (aI 1)) (G, cA') r2 y2)) → TM d 83 [aR 48, aI dep] (G, cA) (fun r1 y1 => HD G d2 cB (fun r2 y2 => F r1 y1 r2 y2))
theorem h_beh {K : Option AV → HH → Prop} (hG : Shp G) (e44 : cB 188 44 = 1) (e11 : ¬ cB 188 11 = 0) (b11 : 0 ≤ cB 188 11 ∧ cB 188 11 ≤ 4) (h : TM (d2 + 11) 257 [aR 188] (G, cB) (fun r h' => T (d2 + 12) 258 112 [some (aR 188), some (aI 1), none] (r.toList ++ []) h' (QM K))) : HD G d2 cB K := by
  unfold HD
  refine b258_48 hG TM_eqo (by intros; omega) rfl ?_ (e44) (by intros; omega) (e44) (by intros; omega) ?_ ?_ rfl (by intros; omega) (e44) (by intros; omega) ?_ ?_ ?_
  all_goals intros
  all_goals first | (exfalso; omega) | exact h
theorem h_op {K : Option AV → HH → Prop} (hG : Shp G) (e44 : cB 188 44 = 0) (h : TM (d2 + 11) 256 [aR 188] (G, cB) (fun r h' => T (d2 + 12) 258 122 [some (aR 188), some (aI 1), none] (r.toList ++ []) h' (QM K))) : HD G d2 cB K := by
  unfold HD
  refine b258_48 hG TM_eqo (by intros; omega) rfl ?_ (e44) (by intros; omega) (e44) (by intros; omega) ?_ ?_ rfl (by intros; omega) (e44) (by intros; omega) ?_ ?_ ?_
  all_goals intros
  all_goals first | (exfalso; omega) | exact h
theorem Sen_ones (h : Sen cA0 cB0 B len most stop j t0 bs dep q pa po D cA cB) (h' : Sen cA0 cB0 B len most stop i' v bs' v1 v2 x y u cA cB') : cB' 188 41 = cB 188 41 := h'.2.2.2.1.1.symm.trans h.2.2.2.1.1
theorem swH {d k pc : Nat} {L : LV} {st : List AV} {h : HH} {P : Option AV → HH → Option AV → HH → Prop} (x : HD G d2 cB (fun r2 y2 => T d k pc L st h (QM (fun r1 y1 => P r1 y1 r2 y2)))) : T d k pc L st h (QM (fun r1 y1 => HD G d2 cB (fun r2 y2 => P r1 y1 r2 y2))) := sw x
theorem swK {d k pc : Nat} {L : LV} {st : List AV} {h : HH} {P : Option AV → HH → Option AV → HH → Prop} (x : T d k pc L st h (QM (fun r1 y1 => HD G d2 cB (fun r2 y2 => P r1 y1 r2 y2)))) : HD G d2 cB (fun r2 y2 => T d k pc L st h (QM (fun r1 y1 => P r1 y1 r2 y2))) := sw x
theorem all_of (hG : Shp G) (hW : Wt B len most stop) {n : Nat} (ho : ROne G d2 cA0 cB0 B len most stop n) : RAll G d2 cA0 cB0 B len most stop n := by
  have hse : Sent 48 := by unfold Sent; decide
  intro d j t0 bs dep D cA cB F hn hd h hb ht e44 hf hs
  obtain ⟨d', rfl⟩ : ∃ d', d = d' + 5 := ⟨d - 5, by have := h.2.2.2.2.2.2.2.1; omega⟩
  have key : ∀ (c : Nat) (i : Int) (j' : Nat) (q pa : Int) (cA' cB' : CC), i + c = 21 → 0 ≤ i → Sen cA0 cB0 B len most stop j' t0 bs dep q pa 0 (D + 1) cA' cB' → Pg cA cB B len stop j cA' cB' j' → cB 188 41 + i + 1 ≤ cB' 188 41 → HD G d2 cB' (fun r2 y2 => T (d' + 5) 84 12 [some (aR 48), some (aI dep), some (aI i)] [] (G, cA') (QM (fun r1 y1 => F r1 y1 r2 y2))) := by
    intro c
    induction c with
    | zero =>
      intro i j' q pa cA' cB' g1 g2 s1 pg g3
      have := s1.2.2.2.1
      have := h.2.2.2.1
      omega
    | succ c ih =>
      intro i j' q pa cA' cB' g1 g2 s1 pg g3
      obtain ⟨pg1, pg2, pg3, pg4⟩ := pg
      by_cases hk : zS B len stop j' = 2 ∧ pN B len stop j' = 11
      · have hp := PP_up hW j' (by rw [hk.1]; omega)
        have nz : ¬ cB' 188 11 = 0 := fun z => by have := ((RT_tok hW (Sen_RT s1)).1.mpr z).1; omega
        refine h_beh hG pg1 nz (RT_11 (Sen_RT s1)) ?_
        refine r_behAnd hG hW s1 hk hb ht (fun cB1 cB2 s2 i2 g4 u4 o1 => ?_) (fun cB1 s => Sen_ones s1 s)
        refine b258_112 hG (by intros; omega) ?_ rfl ?_
        · intro z
          refine swK ?_
          refine b84_12 hG (hse) (by intros; omega) ?_ ?_
          · intro z2; omega
          · intro z2
            refine c_isKey hG hW s1.1.1 (by omega) ?_
            rw [if_pos hk]
            refine b84_27 hG (hse) (by intros; omega) ?_ ?_
            · intro z3; omega
            · intro z3
              refine c_advance hG s1.1.1 (fun cA2 f2 t2 => ?_)
              have s3 := Sen_go s2 f2 t2 (FrG_N g4) u4
              have e6 : cA2 48 6 = cA' 48 6 := by rw [f2.1 48 (by omega)]
              have e41 : cB2 188 41 = cB' 188 41 := by rw [g4.2 41 (by omega) (by omega) (by omega) (by omega) (by omega) (by omega)]; exact o1
              refine b84_37 hG (hse) ?_
              refine TM_Qm (fun r1 y1 x => swH x) (ho (d' + 4) (j' + 1) (t0 + 1) (q_u1 bs t0 21) dep (D + 1) cA2 cB2 _ (by omega) (by omega) s3 (by rw [g4.2 44 (by omega) (by omega) (by omega) (by omega) (by omega) (by omega)]; exact i2) ?_ ?_)
              · intro cA3 cB3 f3 f4 hx
                show T (d' + 5) 84 42 _ [aI 0] _ _
                refine b84_42 hG (hse) (by intros; omega) ?_ ?_
                · intro z4; omega
                · intro z4; exact hf cA3 cB3 f3 f4 hx
              · intro j3 q3 cA3 cB3 s4 pg'
                obtain ⟨pg1', pg2', pg3', pg4'⟩ := pg'
                refine swK ?_
                show T (d' + 5) 84 42 _ [aI 1] _ _
                have bd1 := s4.2.2.2.1
                have bd2 := s4.2.2.2.2.1
                have bd3 := h.2.2.2.2.2.2.1
                have bd4 := h.2.2.2.2.1
                have bd5 := h.2.2.2.1
                have bd6 := h.2.2.2.2.2.1
                have bd7 := s4.2.2.2.2.2.2.1
                refine b84_42 hG (hse) (by intros; omega) ?_ ?_
                · intro z4
                  refine c_addStep hG rfl (by omega) ?_
                  refine b84_55 hG (hse) ?_
                  have s5 : Sen cA0 cB0 B len most stop j3 t0 bs dep q3 1 0 (D + 1) (adS cA3 (cA3 48 6) 11 0 0) cB3 := by
                    have a1 := SeC_addA s4.2.2.2 (by omega) (by omega) (by omega)
                    rw [show D + 1 + 1 - 1 = D + 1 by omega] at a1
                    exact ⟨TkS_S s4.1, FAs_S s4.2.1, s4.2.2.1, a1⟩
                  exact swH (ih (i + 1) j3 q3 1 _ cB3 (by omega) (by omega) s5 ⟨pg1', by omega, by rw [adS_6]; omega, by omega⟩ (by omega))
                · intro z4; omega
        · intro z; omega
      · refine swK ?_
        refine b84_12 hG (hse) (by intros; omega) ?_ ?_
        · intro z2
          have := s1.2.2.2.1
          have := h.2.2.2.1
          omega
        · intro z2
          refine c_isKey hG hW s1.1.1 (by omega) ?_
          rw [if_neg hk]
          refine b84_27 hG (hse) (by intros; omega) ?_ ?_
          · intro z3
            exact hs j' q pa cA' cB' s1 ⟨pg1, pg2, pg3, pg4⟩ hk
          · intro z3; omega
  refine b84_0 hG (hse) ?_
  refine TM_Qm (fun r1 y1 x => swH x) (ho (d' + 4) j t0 bs dep D cA cB _ hn (by omega) h e44 ?_ ?_)
  · intro cA3 cB3 f3 f4 hx
    show T (d' + 5) 84 5 _ [aI 0] _ _
    refine b84_5 hG (hse) (by intros; omega) ?_ ?_
    · intro z; omega
    · intro z; exact hf cA3 cB3 f3 f4 hx
  · intro j3 q3 cA3 cB3 s4 pg
    refine swK ?_
    show T (d' + 5) 84 5 _ [aI 1] _ _
    refine b84_5 hG (hse) (by intros; omega) ?_ ?_
    · intro z
      have s5 : Sen cA0 cB0 B len most stop j3 t0 bs dep q3 0 0 (D + 1) cA3 cB3 := s4
      exact swH (key 21 0 j3 q3 0 cA3 cB3 (by omega) (by omega) s5 pg (by have := pg.2.1; omega))
    · intro z; omega
theorem cond_of (hG : Shp G) (hW : Wt B len most stop) {n : Nat} (ho : RAll G d2 cA0 cB0 B len most stop n) : RCond G d2 cA0 cB0 B len most stop n := by
  have hse : Sent 48 := by unfold Sent; decide
  intro d j t0 bs dep D cA cB F hn hd h hb ht e44 hf hs
  obtain ⟨d', rfl⟩ : ∃ d', d = d' + 5 := ⟨d - 5, by have := h.2.2.2.2.2.2.2.1; omega⟩
  have key : ∀ (c : Nat) (i : Int) (j' : Nat) (q pa po : Int) (cA' cB' : CC), i + c = 21 → 0 ≤ i → Sen cA0 cB0 B len most stop j' t0 bs dep q pa po (D + 1) cA' cB' → Pg cA cB B len stop j cA' cB' j' → ¬ (zS B len stop j' = 2 ∧ pN B len stop j' = 11) → cB 188 41 + i + 1 ≤ cB' 188 41 → HD G d2 cB' (fun r2 y2 => T (d' + 5) 83 12 [some (aR 48), some (aI dep), some (aI i)] [] (G, cA') (QM (fun r1 y1 => F r1 y1 r2 y2))) := by
    intro c
    induction c with
    | zero =>
      intro i j' q pa po cA' cB' g1 g2 s1 pg n11 g3
      have := s1.2.2.2.1
      have := h.2.2.2.1
      omega
    | succ c ih =>
      intro i j' q pa po cA' cB' g1 g2 s1 pg n11 g3
      obtain ⟨pg1, pg2, pg3, pg4⟩ := pg
      by_cases hk : zS B len stop j' = 2 ∧ pN B len stop j' = 10
      · have hp := PP_up hW j' (by rw [hk.1]; omega)
        have nz : ¬ cB' 188 11 = 0 := fun z => by have := ((RT_tok hW (Sen_RT s1)).1.mpr z).1; omega
        refine h_beh hG pg1 nz (RT_11 (Sen_RT s1)) ?_
        refine r_behOr hG hW s1 hk hb (by omega) (fun cB1 cB2 s2 i2 g4 u4 o1 => ?_) (fun cB1 s => Sen_ones s1 s)
        refine b258_112 hG (by intros; omega) ?_ rfl ?_
        · intro z
          refine swK ?_
          refine b83_12 hG (hse) (by intros; omega) ?_ ?_
          · intro z2; omega
          · intro z2
            refine c_isKey hG hW s1.1.1 (by omega) ?_
            rw [if_pos hk]
            refine b83_27 hG (hse) (by intros; omega) ?_ ?_
            · intro z3; omega
            · intro z3
              refine c_advance hG s1.1.1 (fun cA2 f2 t2 => ?_)
              have s3 := Sen_go s2 f2 t2 (FrG_N g4) u4
              have e6 : cA2 48 6 = cA' 48 6 := by rw [f2.1 48 (by omega)]
              have e41 : cB2 188 41 = cB' 188 41 := by rw [g4.2 41 (by omega) (by omega) (by omega) (by omega) (by omega) (by omega)]; exact o1
              refine b83_37 hG (hse) ?_
              refine TM_Qm (fun r1 y1 x => swH x) (ho (d' + 4) (j' + 1) (t0 + 1) (q_u1 bs t0 22) dep (D + 1) cA2 cB2 _ (by omega) (by omega) s3 (Or.inr (by rw [show t0 + 1 - 1 = t0 by omega, u1_e]; omega)) (by omega) (by rw [g4.2 44 (by omega) (by omega) (by omega) (by omega) (by omega) (by omega)]; exact i2) ?_ ?_)
              · intro cA3 cB3 f3 f4 hx
                show T (d' + 5) 83 42 _ [aI 0] _ _
                refine b83_42 hG (hse) (by intros; omega) ?_ ?_
                · intro z4; omega
                · intro z4; exact hf cA3 cB3 f3 f4 hx
              · intro j3 q3 pa3 cA3 cB3 s4 pg' n11'
                obtain ⟨pg1', pg2', pg3', pg4'⟩ := pg'
                refine swK ?_
                show T (d' + 5) 83 42 _ [aI 1] _ _
                have bd1 := s4.2.2.2.1
                have bd2 := s4.2.2.2.2.1
                have bd3 := h.2.2.2.2.2.2.1
                have bd4 := h.2.2.2.2.1
                have bd5 := h.2.2.2.1
                have bd6 := h.2.2.2.2.2.1
                have bd7 := s4.2.2.2.2.2.2.1
                refine b83_42 hG (hse) (by intros; omega) ?_ ?_
                · intro z4
                  refine c_addStep hG rfl (by omega) ?_
                  refine b83_55 hG (hse) ?_
                  have s5 : Sen cA0 cB0 B len most stop j3 t0 bs dep q3 pa3 1 (D + 1) (adS cA3 (cA3 48 6) 10 0 0) cB3 := by
                    have a1 := SeC_addO s4.2.2.2 (by omega) (by omega) (by omega)
                    rw [show D + 1 + 1 - 1 = D + 1 by omega] at a1
                    exact ⟨TkS_S s4.1, FAs_S s4.2.1, s4.2.2.1, a1⟩
                  exact swH (ih (i + 1) j3 q3 pa3 1 _ cB3 (by omega) (by omega) s5 ⟨pg1', by omega, by rw [adS_6]; omega, by omega⟩ n11' (by omega))
                · intro z4; omega
        · intro z; omega
      · refine swK ?_
        refine b83_12 hG (hse) (by intros; omega) ?_ ?_
        · intro z2
          have := s1.2.2.2.1
          have := h.2.2.2.1
          omega
        · intro z2
          refine c_isKey hG hW s1.1.1 (by omega) ?_
          rw [if_neg hk]
          refine b83_27 hG (hse) (by intros; omega) ?_ ?_
          · intro z3
            exact hs j' q pa po cA' cB' s1 ⟨pg1, pg2, pg3, pg4⟩ n11 hk
          · intro z3; omega
  refine b83_0 hG (hse) ?_
  refine TM_Qm (fun r1 y1 x => swH x) (ho (d' + 4) j t0 bs dep D cA cB _ hn (by omega) h (by omega) (by omega) e44 ?_ ?_)
  · intro cA3 cB3 f3 f4 hx
    show T (d' + 5) 83 5 _ [aI 0] _ _
    refine b83_5 hG (hse) (by intros; omega) ?_ ?_
    · intro z; omega
    · intro z; exact hf cA3 cB3 f3 f4 hx
  · intro j3 q3 pa3 cA3 cB3 s4 pg n11
    refine swK ?_
    show T (d' + 5) 83 5 _ [aI 1] _ _
    refine b83_5 hG (hse) (by intros; omega) ?_ ?_
    · intro z
      exact swH (key 21 0 j3 q3 pa3 0 cA3 cB3 (by omega) (by omega) s4 pg n11 (by have := pg.2.1; omega))
    · intro z; omega
end SPsk
