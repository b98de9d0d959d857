section SPsj
variable {d d1 d2 r n0 : Nat} {G : GG} {c c' cA cB cA' cB' cA0 cB0 : CC} {Q : Option AV → HH → Prop} {v v1 v2 N k m n s t t0 w dep q pa po D sg s0 x y u len most stop p key lf : Int} {j i' : Nat} {S : SS} {B bs bs' dp : Int → Int}
theorem Sen_q (h : Sen cA0 cB0 B len most stop j t0 bs dep q pa po D cA cB) : ∃ n : Nat, q = (n : Int) := ⟨q.toNat, by have := h.2.2.2.2.2.2.1.1; omega⟩
theorem r_notsQ (hG : Shp G) (h : Sen cA0 cB0 B len most stop j t0 bs dep q pa po D cA cB) (hb : pa = 1 ∨ po = 1 ∨ t0 = 0 ∨ ¬ bs (t0 - 1) = 20) (hz : ∀ cB', Sen cA0 cB0 B len most stop j t0 bs dep 0 pa po D cA cB' → cB' 188 44 = cB 188 44 → Q none (G, cB')) : TM (d + 1) 254 [aR 188] (G, cB) Q := by
  obtain ⟨n, rfl⟩ := Sen_q h
  exact r_nots hG n cB h hb hz
theorem Sen_RT (h : Sen cA0 cB0 B len most stop j t0 bs dep q pa po D cA cB) : RT cB B len most stop j := h.1.2.1
theorem Sen_pushJ (h : Sen cA0 cB0 B len most stop j t0 bs dep 0 0 0 D cA cB) (e42 : cB 188 42 = t0) (hw : 20 ≤ w ∧ w ≤ 23) (ht : t0 + 1 ≤ 3 * dep - 1) : Sen cA0 cB0 B len most stop j (t0 + 1) (q_u1 bs t0 w) dep 0 0 0 D cA (q_up (q_up (q_up cB 206 t0 w) 188 42 (t0 + 1)) 188 44 0) := by
  have h5 := h.2.2.2.2.2.2.2.1
  have h2 := SeC_push (w := w) (cB' := q_up (q_up (q_up cB 206 t0 w) 188 42 (t0 + 1)) 188 44 0) h.2.2.2 dep (by rw [up_n (by omega), up_n (by omega), up_n (by omega)]) (by rw [up_n (by omega), up_n (by omega), up_n (by omega)]) (by rw [up_n (by omega), up_e, e42]) (by rw [up_n (by omega), up_n (by omega), up_n (by omega)]; omega) (by rw [up_r (by omega), up_r (by omega), up_er]) (by rw [up_r (by omega), up_r (by omega), up_r (by omega)]) hw (by omega)
  exact ⟨TkS_C h.1 (fun i hi => by rw [up_n (by omega), up_n (by omega), up_n (by omega)]) (by rw [up_r (by omega), up_r (by omega), up_r (by omega)]), h.2.1, FBs_I h.2.2.1 (fun r h1 _ h3 => by rw [up_r h1, up_r h1, up_r h3]) (fun i hi => by rw [up_n (by omega), up_n (by omega), up_n (by omega)]), h2⟩
theorem r_behAnd (hG : Shp G) (hW : Wt B len most stop) (h : Sen cA0 cB0 B len most stop j t0 bs dep q pa 0 D cA cB) (hk : zS B len stop j = 2 ∧ pN B len stop j = 11) (hb : t0 = 0 ∨ (¬ bs (t0 - 1) = 20 ∧ ¬ bs (t0 - 1) = 21)) (ht : t0 ≤ 3 * dep - 2) (hz : ∀ cB1 cB', Sen cA0 cB0 B len most stop j (t0 + 1) (q_u1 bs t0 21) dep 0 0 0 D cA cB1 → cB1 188 44 = 0 → FrN cB1 cB' → RT cB' B len most stop (j + 1) → cB1 188 41 = cB 188 41 → Q (some (aI 1)) (G, cB')) (e41 : ∀ cB', Sen cA0 cB0 B len most stop j t0 bs dep 0 0 0 D cA cB' → cB' 188 41 = cB 188 41) : TM (d + 4) 257 [aR 188] (G, cB) Q := by
  refine b257_0 hG ?_
  refine r_notsQ hG h (by omega) (fun cB1 s1 _ => ?_)
  refine b257_4 hG ?_
  refine r_isWord hG hW (Sen_RT s1) 11 (by omega) (by omega) (by decide +kernel) ?_
  rw [if_pos hk]
  refine b257_11 hG (by intros; omega) ?_ ?_
  · intro z
    refine r_isWord hG hW (Sen_RT s1) 11 (by omega) (by omega) (by decide +kernel) ?_
    rw [if_pos hk]
    refine b257_32 hG (by intros; omega) ?_ ?_
    · intro z; omega
    · intro z
      refine r_joinsA hG s1 (by omega) (fun cB2 s2 _ => ?_)
      have e42 : cB2 188 42 = t0 := by have := s2.2.2.2.2.2.1.1; omega
      have bt := s2.2.2.2
      have bt1 := bt.2.2.1
      have bt2 := bt.2.2.2.2.1
      refine b257_45 hG (e42) ?_
      refine r_isWord hG hW (Sen_RT s2) 11 (by omega) (by omega) (by decide +kernel) ?_
      rw [if_pos hk]
      refine b257_60 hG TM_eqo (by intros; omega) (by intros; omega) (by intros; omega) ((up_n (by omega)).trans e42) ?_ (by intros; omega) (by intros; omega) ((up_n (by omega)).trans e42) ?_
      · intro z; omega
      · intro z
        have s3 := Sen_pushJ (w := 21) s2 e42 (by omega) (by omega)
        refine r_advance hG (Sen_RT s3) hW.1 hW.2.1 hW.2.2.1 (fun cB3 g3 u3 => ?_)
        refine b257_90 hG ?_
        refine hz _ cB3 s3 up_e g3 u3 ?_
        rw [up_n (by omega), up_n (by omega), up_n (by omega)]
        exact e41 cB2 s2
  · intro z; omega
theorem r_behOr (hG : Shp G) (hW : Wt B len most stop) (h : Sen cA0 cB0 B len most stop j t0 bs dep q pa po D cA cB) (hk : zS B len stop j = 2 ∧ pN B len stop j = 10) (hb : t0 = 0 ∨ bs (t0 - 1) = 23) (ht : t0 ≤ 3 * dep - 2) (hz : ∀ cB1 cB', Sen cA0 cB0 B len most stop j (t0 + 1) (q_u1 bs t0 22) dep 0 0 0 D cA cB1 → cB1 188 44 = 0 → FrN cB1 cB' → RT cB' B len most stop (j + 1) → cB1 188 41 = cB 188 41 → Q (some (aI 1)) (G, cB')) (e41 : ∀ cB', Sen cA0 cB0 B len most stop j t0 bs dep 0 0 0 D cA cB' → cB' 188 41 = cB 188 41) : TM (d + 4) 257 [aR 188] (G, cB) Q := by
  have n11 : ¬ (zS B len stop j = 2 ∧ pN B len stop j = 11) := by omega
  refine b257_0 hG ?_
  refine r_notsQ hG h (by omega) (fun cB1 s1 _ => ?_)
  refine b257_4 hG ?_
  refine r_isWord hG hW (Sen_RT s1) 11 (by omega) (by omega) (by decide +kernel) ?_
  rw [if_neg n11]
  refine b257_11 hG (by intros; omega) ?_ ?_
  · intro z; omega
  · intro z
    refine r_isWord hG hW (Sen_RT s1) 10 (by omega) (by omega) (by decide +kernel) ?_
    rw [if_pos hk]
    refine b257_21 hG (by intros; omega) ?_ ?_
    · intro z; omega
    · intro z
      refine r_isWord hG hW (Sen_RT s1) 11 (by omega) (by omega) (by decide +kernel) ?_
      rw [if_neg n11]
      refine b257_32 hG (by intros; omega) ?_ ?_
      · intro z
        refine r_joinsO hG s1 (by omega) (fun cB2 s2 _ => ?_)
        have e42 : cB2 188 42 = t0 := by have := s2.2.2.2.2.2.1.1; omega
        have bt := s2.2.2.2
        have bt1 := bt.2.2.1
        have bt2 := bt.2.2.2.2.1
        refine b257_45 hG (e42) ?_
        refine r_isWord hG hW (Sen_RT s2) 11 (by omega) (by omega) (by decide +kernel) ?_
        rw [if_neg n11]
        refine b257_60 hG TM_eqo (by intros; omega) (by intros; omega) (by intros; omega) ((up_n (by omega)).trans e42) ?_ (by intros; omega) (by intros; omega) ((up_n (by omega)).trans e42) ?_
        · intro z
          have s3 := Sen_pushJ (w := 22) s2 e42 (by omega) (by omega)
          refine r_advance hG (Sen_RT s3) hW.1 hW.2.1 hW.2.2.1 (fun cB3 g3 u3 => ?_)
          refine b257_90 hG ?_
          refine hz _ cB3 s3 up_e g3 u3 ?_
          rw [up_n (by omega), up_n (by omega), up_n (by omega)]
          exact e41 cB2 s2
        · intro z; omega
      · intro z; omega
theorem r_behX (hG : Shp G) (hW : Wt B len most stop) (h : Sen cA0 cB0 B len most stop j t0 bs dep q pa po D cA cB) (n11 : ¬ (zS B len stop j = 2 ∧ pN B len stop j = 11)) (n10 : ¬ (zS B len stop j = 2 ∧ pN B len stop j = 10)) (hb : t0 = 0 ∨ bs (t0 - 1) = 23) (hz : ∀ cB1, Sen cA0 cB0 B len most stop j t0 bs dep 0 0 0 D cA cB1 → cB1 188 44 = cB 188 44 → T (d + 4) 257 104 [some (aR 188)] [aI (if zS B len stop j = 4 ∧ pN B len stop j = 41 then 1 else 0)] (G, cB1) (QM Q)) : TM (d + 4) 257 [aR 188] (G, cB) Q := by
  refine b257_0 hG ?_
  refine r_notsQ hG h (by omega) (fun cB1 s1 i1 => ?_)
  refine b257_4 hG ?_
  refine r_isWord hG hW (Sen_RT s1) 11 (by omega) (by omega) (by decide +kernel) ?_
  rw [if_neg n11]
  refine b257_11 hG (by intros; omega) ?_ ?_
  · intro z; omega
  · intro z
    refine r_isWord hG hW (Sen_RT s1) 10 (by omega) (by omega) (by decide +kernel) ?_
    rw [if_neg n10]
    refine b257_21 hG (by intros; omega) ?_ ?_
    · intro z
      refine r_joinsO hG s1 (by omega) (fun cB2 s2 i2 => ?_)
      refine b257_98 hG ?_
      refine r_isSgn hG hW (Sen_RT s2) (by omega) ?_
      exact hz cB2 s2 (i2.trans i1)
    · intro z; omega
theorem r_behClose (hG : Shp G) (hW : Wt B len most stop) (h : Sen cA0 cB0 B len most stop j (t0 + 1) (q_u1 bs t0 23) (dep + 1) q pa po D cA cB) (hk : zS B len stop j = 4 ∧ pN B len stop j = 41) (hd : 1 ≤ dep ∧ 0 ≤ t0 ∧ t0 ≤ 3 * dep - 1) (hz : ∀ cB1 cB', Sen cA0 cB0 B len most stop j t0 bs dep 0 0 0 D cA cB1 → cB1 188 44 = cB 188 44 → FrN cB1 cB' → RT cB' B len most stop (j + 1) → Q (some (aI 1)) (G, cB')) : TM (d + 4) 257 [aR 188] (G, cB) Q := by
  refine r_behX hG hW h (by omega) (by omega) (Or.inr (by rw [show t0 + 1 - 1 = t0 by omega, u1_e])) (fun cB1 s1 i1 => ?_)
  rw [if_pos hk]
  have bt := s1.2.2.2
  have bt1 := bt.2.2.1
  have bt2 := bt.2.2.2.2.1
  have e42 : cB1 188 42 = t0 + 1 := by omega
  have e43 : cB1 188 43 = dep + 1 := by omega
  refine b257_104 hG TM_eqo (by intros; omega) ?_ (e42) (by intros; omega) (e42) ((up_n (by omega)).trans e43) ?_ ?_
  · intro z; omega
  · intro z z2
    have h2 := SeC_close (cB' := q_up (q_up cB1 188 42 (t0 + 1 - 1)) 188 43 (dep + 1 - 1)) s1.2.2.2 hd (by rw [up_n (by omega), up_n (by omega)]) (by rw [up_n (by omega), up_n (by omega)]) (by rw [up_n (by omega), up_e, e42]) (by rw [up_e, e43]) (by rw [up_r (by omega), up_r (by omega)]) (by rw [up_r (by omega), up_r (by omega)])
    have s2 : Sen cA0 cB0 B len most stop j t0 bs dep 0 0 0 D cA (q_up (q_up cB1 188 42 (t0 + 1 - 1)) 188 43 (dep + 1 - 1)) := ⟨TkS_C s1.1 (fun i hi => by rw [up_n (by omega), up_n (by omega)]) (by rw [up_r (by omega), up_r (by omega)]), s1.2.1, FBs_I s1.2.2.1 (fun r h1 _ _ => by rw [up_r h1, up_r h1]) (fun i hi => by rw [up_n (by omega), up_n (by omega)]), h2⟩
    refine r_advance hG (Sen_RT s2) hW.1 hW.2.1 hW.2.2.1 (fun cB3 g3 u3 => ?_)
    refine b257_144 hG ?_
    exact hz _ cB3 s2 (by rw [up_n (by omega), up_n (by omega)]; exact i1) g3 u3
  · intro z z2; omega
theorem r_behBad (hG : Shp G) (hW : Wt B len most stop) (h : Sen cA0 cB0 B len most stop j t0 bs dep q pa po D cA cB) (n11 : ¬ (zS B len stop j = 2 ∧ pN B len stop j = 11)) (n10 : ¬ (zS B len stop j = 2 ∧ pN B len stop j = 10)) (hk : t0 = 0 ∨ (bs (t0 - 1) = 23 ∧ ¬ (zS B len stop j = 4 ∧ pN B len stop j = 41))) (hz : ∀ cB1 cB', FBs cB0 cB1 → FlB cB1 cB' 1 (pP B len stop j) → Q (some (aI 0)) (G, cB')) : TM (d + 4) 257 [aR 188] (G, cB) Q := by
  refine r_behX hG hW h n11 n10 (by omega) (fun cB1 s1 i1 => ?_)
  have bt := s1.2.2.2
  have bt1 := bt.2.2.1
  have bt2 := bt.2.2.2.2.1
  have bad : TM (d + 3) 173 [aR 188, aI 1] (G, cB1) (fun r h' => T (d + 4) 257 119 [none] (r.toList ++ []) h' (QM Q)) := by
    refine r_bad hG (Sen_RT s1) (fun cB2 g2 => ?_)
    refine b257_119 hG (Or.inl rfl) ?_
    exact hz cB1 cB2 s1.2.2.1 g2
  by_cases hc : zS B len stop j = 4 ∧ pN B len stop j = 41
  · rw [if_pos hc]
    have e42 : cB1 188 42 = 0 := by omega
    refine b257_104 hG TM_eqo (by intros; omega) ?_ (e42) (by intros; omega) rfl (up_n (by omega)) ?_ ?_
    · intro z; omega
    · intro z z2; omega
    · intro z z2; exact bad
  · rw [if_neg hc]
    refine b257_104 hG TM_eqo (by intros; omega) ?_ rfl (by intros; omega) rfl (up_n (by omega)) ?_ ?_
    · intro z; exact bad
    · intro z z2; omega
    · intro z z2; omega
theorem r_endX (hG : Shp G) (hW : Wt B len most stop) (h : Sen cA0 cB0 B len most stop j t0 bs dep q pa po D cA cB) (e44 : cB 188 44 = 1) (e11 : cB 188 11 = 0) (hb : t0 = 0 ∨ bs (t0 - 1) = 23) (hz0 : t0 = 0 → ∀ cB1, Sen cA0 cB0 B len most stop j 0 bs dep 0 0 0 D cA cB1 → T (d + 4) 258 48 [some (aR 188), some (aI 0), none] [] (G, cB1) (QM Q)) (hz1 : 0 < t0 → ∀ cB1 cB', FBs cB0 cB1 → FlB cB1 cB' 1 (pP B len stop j) → Q (some (aI ((-1) - cB' 188 16))) (G, cB')) : T (d + 4) 258 48 [some (aR 188), some (aI 1), none] [] (G, cB) (QM Q) := by
  refine b258_48 hG TM_eqo (by intros; omega) rfl ?_ (e44) (by intros; omega) (e44) (by intros; omega) ?_ ?_ (e11) (by intros; omega) (e44) (by intros; omega) ?_ ?_ ?_
  all_goals intros
  all_goals first | (exfalso; omega) | skip
  refine r_notsQ hG h (by omega) (fun cB1 s1 _ => ?_)
  refine b258_70 hG ?_
  refine r_joinsO hG s1 (by omega) (fun cB2 s2 _ => ?_)
  have bt := s2.2.2.2
  have bt1 := bt.2.2.1
  have bt2 := bt.2.2.2.2.1
  have e42 : cB2 188 42 = t0 := by omega
  refine b258_76 hG (e42) (by intros; omega) ?_ ?_
  · intro z
    obtain rfl : t0 = 0 := by omega
    exact hz0 rfl cB2 s2
  · intro z
    refine r_bad hG (Sen_RT s2) (fun cB3 g3 => ?_)
    have hb := (p_b hW j).2.2.2.2.2
    have h16 := g3.2.2.2
    refine b258_88 hG rfl ?_
    exact hz1 z cB2 cB3 s2.2.2.1 g3
end SPsj
