section SPIn
variable {d : Nat} {G : GG} {c c' cA cB cA1 cB1 cA' cB' : CC} {Q : Option AV → HH → Prop} {v1 v2 n i j x s k : Int} {S S' : SS} {a b e : Nat}
theorem thr_e0 : (∀ r, ¬ r = 188 → (q_up c 188 0 0) r = c r) ∧ (∀ i, ¬ i = 0 → (q_up c 188 0 0) 188 i = c 188 i) := ⟨fun r h => up_r h, fun i h => up_n (by omega)⟩
theorem GI1_q (h : GI1 cA cB a k) (a1 : ∀ r, a ≤ r → r ≤ a + 22 → cA' r = cA r) (b1 : ∀ i, 0 ≤ i → i < 514 → cB' 208 (514 * k + i) = cB 208 (514 * k + i)) (b2 : ∀ i, 0 ≤ i → i < 14 → cB' 209 (14 * k + i) = cB 209 (14 * k + i)) (b3 : cB' 210 k = cB 210 k) : GI1 cA' cB' a k := by
  unfold GI1
  rw [a1 a (by omega) (by omega), b3]
  refine ⟨h.1, h.2.1, fun p => ?_⟩
  obtain ⟨g1, g2, g3, g4, g5⟩ := h.2.2 p
  have hq : EqS (imgF cB k) (imgF cB' k) := fun i p q => b1 i p q
  have hr := g1.1.1
  refine ⟨GS_q hq g1, RR_q hq (by omega) (RR_fr g2 (fun r q1 q2 => a1 r (by omega) (by omega))), LR_q hq (by omega) (LR_fr g3 (fun r q1 q2 => a1 r (by omega) (by omega))), SnR_q hq (SnR_fr g4 (a1 _ (by omega) (by omega)) (a1 _ (by omega) (by omega)) (a1 _ (by omega) (by omega)) (a1 _ (by omega) (by omega))), Nms_q g5 ⟨hq 0 (by omega) (by omega), hq 1 (by omega) (by omega)⟩ (by omega) ⟨fun j _ _ => by rw [a1 (a + 1 + 1) (by omega) (by omega)], fun j _ _ => by rw [a1 (a + 1 + 2) (by omega) (by omega)]⟩ b2⟩
theorem r_image (hG : Shp G) (h1 : I32 v1) (hk : 0 ≤ v1 ∧ v1 ≤ 1) (hz : ∀ c', (∀ r, ¬ r = 188 → ¬ r = 208 → ¬ r = 209 → ¬ r = 210 → c' r = c r) → (∀ i, ¬ i = 0 → c' 188 i = c 188 i) → (∀ q, c' 208 q = if 514 * v1 ≤ q ∧ q < 514 * v1 + 514 then c 190 (q - 514 * v1) else c 208 q) → (∀ q, c' 209 q = if 14 * v1 ≤ q ∧ q < 14 * v1 + 14 then c 193 (q - 14 * v1) else c 209 q) → (∀ q, c' 210 q = if q = v1 then 1 else c 210 q) → Q (some (aI 1)) (G, c')) : TM (d + 1) 262 [aR 188, aI v1] (G, c) Q := by
  obtain ⟨q1, q2⟩ := thr_e0 (c := c)
  refine b262_0 hG ?_
  generalize hc1 : q_up c 188 0 0 = c1 at q1 q2 ⊢
  refine r_isIn hG h1 (by omega) (by omega) ?_
  rw [if_pos hk]
  refine b262_11 hG (by intros; omega) ?_ ?_
  · intro p1
    have k2 : ∀ i, 0 ≤ i → i ≤ 14 → ∀ (f g : SS), (∀ q, f q = if 514 * v1 ≤ q ∧ q < 514 * v1 + 514 then c 190 (q - 514 * v1) else c 208 q) → (∀ q, g q = if 14 * v1 ≤ q ∧ q < 14 * v1 + i then c 193 (q - 14 * v1) else c 209 q) → T (d + 1) 262 51 [some (aR 188), some (aI v1), some (aI i)] [] (G, q_uf (q_uf c1 208 f) 209 g) (QM Q) := by
      refine int_ind ?_ ?_
      · intro f g hf hg
        refine b262_51 hG (by intros; omega) (by intros; omega) (by intros; omega) ?_ (by intros; omega) (by intros; omega) rfl (by intros; omega) (by intros; omega) ?_
        · intro p3
          refine hz _ (fun r p q t u => ?_) (fun i p => ?_) (fun q => ?_) (fun q => ?_) (fun q => ?_)
          · rw [up_r u, uf_n t, uf_n q, q1 r p]
          · rw [up_n (by omega), uf_n2 (by omega), uf_n2 (by omega)]; exact q2 i p
          · rw [up_n (by omega), uf_n2 (by omega), uf_e]; exact hf q
          · rw [up_n (by omega), uf_e]; exact hg q
          · by_cases hq : q = v1
            · rw [hq, up_e, if_pos rfl]; rfl
            · rw [up_n (by omega), if_neg hq, uf_n2 (by omega), uf_n2 (by omega), q1 210 (by omega)]
        · intro p3; omega
      · intro i q3 q4 ih f g hf hg
        refine b262_51 hG (by intros; omega) (by intros; omega) (by intros; omega) ?_ (by intros; omega) (by intros; omega) ((uf_n2 (by omega)).trans ((uf_n2 (by omega)).trans (congrFun (q1 193 (by omega)) _))) (by intros; omega) (by intros; omega) ?_
        · intro p3; omega
        · intro p3
          rw [uf_up]
          refine ih f _ hf (fun q => ?_)
          by_cases hq : q = 14 * v1 + i
          · rw [hq, u1_e, if_pos (by omega)]
            congr 1; omega
          · rw [u1_n hq, hg q]
            by_cases h3 : 14 * v1 ≤ q ∧ q < 14 * v1 + i
            · rw [if_pos h3, if_pos (by omega)]
            · rw [if_neg h3, if_neg (by omega)]
    have k1 : ∀ i, 0 ≤ i → i ≤ 514 → ∀ (f : SS), (∀ q, f q = if 514 * v1 ≤ q ∧ q < 514 * v1 + i then c 190 (q - 514 * v1) else c 208 q) → T (d + 1) 262 18 [some (aR 188), some (aI v1), some (aI i)] [] (G, q_uf c1 208 f) (QM Q) := by
      refine int_ind ?_ ?_
      · intro f hf
        refine b262_18 hG (by intros; omega) ?_ (by intros; omega) (by intros; omega) rfl (by intros; omega) (by intros; omega) ?_
        · intro p3
          have := k2 0 (by omega) (by omega) f (c1 209) hf (fun q => by rw [if_neg (by omega), q1 209 (by omega)])
          rw [uf_id2 (show c1 209 = (q_uf c1 208 f) 209 by rw [uf_n (by omega)])] at this
          exact this
        · intro p3; omega
      · intro i q3 q4 ih f hf
        refine b262_18 hG (by intros; omega) ?_ (by intros; omega) (by intros; omega) ((uf_n2 (by omega)).trans (congrFun (q1 190 (by omega)) _)) (by intros; omega) (by intros; omega) ?_
        · intro p3; omega
        · intro p3
          rw [uf_up]
          refine ih _ (fun q => ?_)
          by_cases hq : q = 514 * v1 + i
          · rw [hq, u1_e, if_pos (by omega)]
            congr 1; omega
          · rw [u1_n hq, hf q]
            by_cases h3 : 514 * v1 ≤ q ∧ q < 514 * v1 + i
            · rw [if_pos h3, if_pos (by omega)]
            · rw [if_neg h3, if_neg (by omega)]
    have := k1 0 (by omega) (by omega) (c1 208) (fun q => by rw [if_neg (by omega), q1 208 (by omega)])
    rw [uf_id] at this
    exact this
  · intro p1; omega
theorem GR_image (h : GR cA cB) {a : Nat} (hk : (k = 0 ∧ a = 141) ∨ (k = 1 ∧ a = 164))
    (a1 : ∀ r, (r < a ∨ a + 22 < r) → cA' r = cA r) (a2 : cA' a 3 = 1) (a3 : RR cA' (a + 1) (cB 190)) (a4 : LR cA' (a + 10) (cB 190)) (a5 : SnR cA' (a + 18) (cB 190)) (a6 : (∀ j, 0 ≤ j → j < 6 → cA' (a + 2) j = cA 10 j) ∧ ∀ j, 0 ≤ j → j < 8 → cA' (a + 3) j = cA 11 j)
    (b1 : ∀ r, ¬ r = 188 → ¬ r = 208 → ¬ r = 209 → ¬ r = 210 → cB' r = cB r) (b2 : ∀ i, ¬ i = 0 → cB' 188 i = cB 188 i) (b3 : ∀ q, cB' 208 q = if 514 * k ≤ q ∧ q < 514 * k + 514 then cB 190 (q - 514 * k) else cB 208 q) (b4 : ∀ q, cB' 209 q = if 14 * k ≤ q ∧ q < 14 * k + 14 then cB 193 (q - 14 * k) else cB 209 q) (b5 : ∀ q, cB' 210 q = if q = k then 1 else cB 210 q) : GR cA' cB' := by
  obtain ⟨r1, r2, r3, r4, r5, r6, r7, r8, r9⟩ := h
  have e190 := b1 190 (by omega) (by omega) (by omega) (by omega)
  have e193 := b1 193 (by omega) (by omega) (by omega) (by omega)
  have hr := r1.1.1
  have new : GI1 cA' cB' a k := by
    have hq : EqS (cB 190) (imgF cB' k) := fun i p q => by
      show cB' 208 (514 * k + i) = _
      rw [b3, if_pos (by omega)]
      congr 1; omega
    refine ⟨by rw [a2, b5, if_pos rfl], by rw [b5, if_pos rfl]; omega, fun _ => ⟨GS_q hq r1, RR_q hq (by omega) a3, LR_q hq (by omega) a4, SnR_q hq a5, Nms_q (b := 9) (f := 193) (off := 0) r2.2.1 ⟨hq 0 (by omega) (by omega), hq 1 (by omega) (by omega)⟩ (by omega) a6 (fun j p q => ?_)⟩⟩
    rw [b4, if_pos (by omega)]
    congr 1; omega
  refine ⟨by rw [e190]; exact r1, GN_fr r2 (by rw [e190]; exact SmR_refl _) r1.1 (fun r p => a1 r (by omega)) (fun j _ _ => by rw [e193]), by rw [e190]; exact LR_fr r3 (fun r p q => a1 r (by omega)), GT_fr r4 (by rw [a1 2 (by omega)]) (by rw [a1 2 (by omega)]) (a1 _ (by omega)) (a1 _ (by omega)) (b2 _ (by omega)) (b2 _ (by omega)) (b1 _ (by omega) (by omega) (by omega) (by omega)) (b1 _ (by omega) (by omega) (by omega) (by omega)), GH_fr r5 (by rw [e190]; exact SmR_refl _) (fun r p q => a1 r (by omega)) (b2 _ (by omega)) (b1 _ (by omega) (by omega) (by omega) (by omega)), GM_fr r6 (a1 _ (by omega)) (b2 _ (by omega)) (b1 _ (by omega) (by omega) (by omega) (by omega)), GW_fr r7 (a1 _ (by omega)) (b2 _ (by omega)) (b1 _ (by omega) (by omega) (by omega) (by omega)), GB_fr r8 (fun i _ _ => by rw [a1 120 (by omega)]) (b2 _ (by omega)) (b1 _ (by omega) (by omega) (by omega) (by omega)) (a1 _ (by omega)) (a1 _ (by omega)) (b1 _ (by omega) (by omega) (by omega) (by omega)) (b1 _ (by omega) (by omega) (by omega) (by omega)), ?_⟩
  rcases hk with ⟨rfl, rfl⟩ | ⟨rfl, rfl⟩
  · exact ⟨new, GI1_q r9.2 (fun r p q => a1 r (by omega)) (fun i p q => by rw [b3, if_neg (by omega)]) (fun i p q => by rw [b4, if_neg (by omega)]) (by rw [b5, if_neg (by omega)])⟩
  · exact ⟨GI1_q r9.1 (fun r p q => a1 r (by omega)) (fun i p q => by rw [b3, if_neg (by omega)]) (fun i p q => by rw [b4, if_neg (by omega)]) (by rw [b5, if_neg (by omega)]), new⟩
theorem ok_141 (hG : Shp G) : okR G 141 3 ∧ okR G 164 3 ∧ rfR G 140 0 141 ∧ rfR G 140 1 164 := ⟨sh_ok hG (by decide +kernel), sh_ok hG (by decide +kernel), sh_rf hG (by decide +kernel), sh_rf hG (by decide +kernel)⟩
theorem n134 (hG : Shp G) {Q : OO → HH → Prop} (s0 : I32 v1) (hw : ¬ (0 ≤ v1 ∧ v1 ≤ 1)) (hz : Q (.inl (some (aI 0))) (G, c)) : T (d + 1) 134 0 [some (aR 1), some (aI v1), none] [] (G, c) Q := by
  refine e_L (L' := [some (aR 1), some (aI v1), none]) (st' := [aI v1]) (show decode (mC 134) 0 = .ok (.iload_n 1, 1) by decide +kernel) rfl rfl ?_
  refine e_lt1 (t := 13) (show decode (mC 134) 1 = .ok (.ifCond .lt 12, 3) by decide +kernel) (by decide) s0 (fun p1 => ?_) (fun p1 => ?_)
  · refine e_P (st' := [aI 0]) (show decode (mC 134) 13 = .ok (.iconst 0, 1) by decide +kernel) rfl rfl rfl ?_
    exact e_zret (show decode (mC 134) 14 = .ok (.ireturn, 1) by decide +kernel) rfl (by decide) hz
  · refine e_L (L' := [some (aR 1), some (aI v1), none]) (st' := [aI v1]) (show decode (mC 134) 4 = .ok (.iload_n 1, 1) by decide +kernel) rfl rfl ?_
    refine e_L (L' := [some (aR 1), some (aI v1), none]) (st' := [aR 1, aI v1]) (show decode (mC 134) 5 = .ok (.aload_n 0, 1) by decide +kernel) rfl (by show (if 1 = 0 then none else some (_, _)) = _; rw [if_neg (by decide)]) ?_
    refine e_getR (w := 140) (show decode (mC 134) 6 = .ok (.getfield 100, 3) by decide +kernel) (show pl 11 100 = some (0, 11, 8, 0) by decide +kernel) (by decide) (sh_ok hG (by decide +kernel)) (sh_rf hG (by decide +kernel)) ?_
    refine e_alen (n := 2) (ki := 25) (show decode (mC 134) 9 = .ok (.arraylength, 1) by decide +kernel) (sh_ok hG (by decide +kernel)) (by decide) (sh_ln hG (by decide +kernel)) ?_
    refine e_lt2 (t := 15) (show decode (mC 134) 10 = .ok (.if_icmp .lt 5, 3) by decide +kernel) (by decide) s0 (by decide) (fun p2 => ?_) (fun p2 => ?_)
    · exact absurd p2 (by show ¬ v1 < 2; omega)
    · refine e_P (st' := [aI 0]) (show decode (mC 134) 13 = .ok (.iconst 0, 1) by decide +kernel) rfl rfl rfl ?_
      exact e_zret (show decode (mC 134) 14 = .ok (.ireturn, 1) by decide +kernel) rfl (by decide) hz
theorem n135 (hG : Shp G) {Q : OO → HH → Prop} (s0 : I32 v1) (hw : ¬ (0 ≤ v1 ∧ v1 ≤ 1)) (hz : Q (.inl (some (aI 0))) (G, c)) : T (d + 1) 135 0 [some (aR 1), some (aI v1), none] [] (G, c) Q := by
  refine e_L (L' := [some (aR 1), some (aI v1), none]) (st' := [aI v1]) (show decode (mC 135) 0 = .ok (.iload_n 1, 1) by decide +kernel) rfl rfl ?_
  refine e_lt1 (t := 13) (show decode (mC 135) 1 = .ok (.ifCond .lt 12, 3) by decide +kernel) (by decide) s0 (fun p1 => ?_) (fun p1 => ?_)
  · refine e_P (st' := [aI 0]) (show decode (mC 135) 13 = .ok (.iconst 0, 1) by decide +kernel) rfl rfl rfl ?_
    exact e_zret (show decode (mC 135) 14 = .ok (.ireturn, 1) by decide +kernel) rfl (by decide) hz
  · refine e_L (L' := [some (aR 1), some (aI v1), none]) (st' := [aI v1]) (show decode (mC 135) 4 = .ok (.iload_n 1, 1) by decide +kernel) rfl rfl ?_
    refine e_L (L' := [some (aR 1), some (aI v1), none]) (st' := [aR 1, aI v1]) (show decode (mC 135) 5 = .ok (.aload_n 0, 1) by decide +kernel) rfl (by show (if 1 = 0 then none else some (_, _)) = _; rw [if_neg (by decide)]) ?_
    refine e_getR (w := 140) (show decode (mC 135) 6 = .ok (.getfield 100, 3) by decide +kernel) (show pl 11 100 = some (0, 11, 8, 0) by decide +kernel) (by decide) (sh_ok hG (by decide +kernel)) (sh_rf hG (by decide +kernel)) ?_
    refine e_alen (n := 2) (ki := 25) (show decode (mC 135) 9 = .ok (.arraylength, 1) by decide +kernel) (sh_ok hG (by decide +kernel)) (by decide) (sh_ln hG (by decide +kernel)) ?_
    refine e_lt2 (t := 15) (show decode (mC 135) 10 = .ok (.if_icmp .lt 5, 3) by decide +kernel) (by decide) s0 (by decide) (fun p2 => ?_) (fun p2 => ?_)
    · exact absurd p2 (by show ¬ v1 < 2; omega)
    · refine e_P (st' := [aI 0]) (show decode (mC 135) 13 = .ok (.iconst 0, 1) by decide +kernel) rfl rfl rfl ?_
      exact e_zret (show decode (mC 135) 14 = .ok (.ireturn, 1) by decide +kernel) rfl (by decide) hz
theorem op_image (hG : Shp G) (h : GR cA cB) (h1 : I32 v1) : OP G (d + 50) 134 262 [aI v1] cA cB := by
  obtain ⟨o1, o2, o3, o4⟩ := ok_141 hG
  by_cases hw : 0 ≤ v1 ∧ v1 ≤ 1
  · have : v1 = 0 ∨ v1 = 1 := by omega
    rcases this with rfl | rfl
    · refine b134_0 hG o1 TM_eqo (by omega) ?_ (by intros; omega) (by intros; omega) o3 ?_ ?_
      · intro p1; omega
      · intro p1 p2
        refine c_imgKeep141 hG h (fun c1 f1 g1 g2 g3 g4 g5 => ?_)
        refine b134_44 hG ?_
        refine ⟨c1, rfl, fun r hr => f1 r (by omega), r_image hG h1 hw (fun c2 m1 m2 m3 m4 m5 => ⟨c2, rfl, GR_image (k := 0) h (Or.inl ⟨rfl, rfl⟩) f1 g1 g2 g3 g4 g5 m1 m2 m3 m4 m5, 1, rfl, rfl, by omega⟩)⟩
      · intro p1 p2; omega
    · refine b134_0 hG o2 TM_eqo (by omega) ?_ (by intros; omega) (by intros; omega) o4 ?_ ?_
      · intro p1; omega
      · intro p1 p2
        refine c_imgKeep164 hG h (fun c1 f1 g1 g2 g3 g4 g5 => ?_)
        refine b134_44 hG ?_
        refine ⟨c1, rfl, fun r hr => f1 r (by omega), r_image hG h1 hw (fun c2 m1 m2 m3 m4 m5 => ⟨c2, rfl, GR_image (k := 1) h (Or.inr ⟨rfl, rfl⟩) f1 g1 g2 g3 g4 g5 m1 m2 m3 m4 m5, 1, rfl, rfl, by omega⟩)⟩
      · intro p1 p2; omega
  · refine op_q (v := 0) h (by omega) ?_ ?_
    · intro Q hz
      generalize hc : cA = c at *
      exact n134 hG h1 hw hz
    · intro Q hz
      generalize hc : cB = c at *
      refine b262_0 hG ?_
      refine r_isIn hG h1 (by omega) (by omega) ?_
      rw [if_neg hw]
      refine b262_11 hG (by intros; omega) ?_ ?_
      · intro p1; omega
      · intro p1; exact hz
theorem r_restore (hG : Shp G) (h1 : I32 v1) (hk : 0 ≤ v1 ∧ v1 ≤ 1) (ht : c 210 v1 = 1) (hz : ∀ c', (∀ r, ¬ r = 188 → ¬ r = 190 → ¬ r = 193 → c' r = c r) → (∀ i, ¬ i = 0 → ¬ i = 23 → c' 188 i = c 188 i) → c' 188 23 = 0 → (∀ q, c' 190 q = if 0 ≤ q ∧ q < 514 then c 208 (514 * v1 + q) else c 190 q) → (∀ q, c' 193 q = if 0 ≤ q ∧ q < 14 then c 209 (14 * v1 + q) else c 193 q) → Q (some (aI 1)) (G, c')) : TM (d + 1) 263 [aR 188, aI v1] (G, c) Q := by
  obtain ⟨q1, q2⟩ := thr_e0 (c := c)
  refine b263_0 hG ?_
  generalize hc1 : q_up c 188 0 0 = c1 at q1 q2 ⊢
  refine r_isIn hG h1 (by omega) (by omega) ?_
  rw [if_pos hk]
  have t1 : c1 210 v1 = 1 := by rw [q1 210 (by omega)]; exact ht
  refine b263_11 hG (by intros; omega) ?_ (by intros; omega) (by intros; omega) rfl (by intros; omega) ?_ ?_
  · intro p1; omega
  · intro p1 p2
    have k2 : ∀ i, 0 ≤ i → i ≤ 14 → ∀ (f g : SS), (∀ q, f q = if 0 ≤ q ∧ q < 514 then c 208 (514 * v1 + q) else c 190 q) → (∀ q, g q = if 0 ≤ q ∧ q < i then c 209 (14 * v1 + q) else c 193 q) → T (d + 1) 263 60 [some (aR 188), some (aI v1), some (aI i)] [] (G, q_uf (q_uf c1 190 f) 193 g) (QM Q) := by
      refine int_ind ?_ ?_
      · intro f g hf hg
        refine b263_60 hG (by intros; omega) ?_ (by intros; omega) (by intros; omega) rfl (by intros; omega) (by intros; omega) ?_
        · intro p3
          refine hz _ (fun r p q t => ?_) (fun i p q => ?_) up_e (fun q => ?_) (fun q => ?_)
          · rw [up_r p, uf_n t, uf_n q, q1 r p]
          · rw [up_n (by omega), uf_n2 (by omega), uf_n2 (by omega)]; exact q2 i p
          · rw [up_n (by omega), uf_n2 (by omega), uf_e]; exact hf q
          · rw [up_n (by omega), uf_e]; exact hg q
        · intro p3; omega
      · intro i q3 q4 ih f g hf hg
        refine b263_60 hG (by intros; omega) ?_ (by intros; omega) (by intros; omega) ((uf_n2 (by omega)).trans ((uf_n2 (by omega)).trans (congrFun (q1 209 (by omega)) _))) (by intros; omega) (by intros; omega) ?_
        · intro p3; omega
        · intro p3
          rw [uf_up]
          refine ih f _ hf (fun q => ?_)
          by_cases hq : q = i
          · rw [hq, u1_e, if_pos (by omega)]
          · rw [u1_n hq, hg q]
            by_cases h3 : 0 ≤ q ∧ q < i
            · rw [if_pos h3, if_pos (by omega)]
            · rw [if_neg h3, if_neg (by omega)]
    have k1 : ∀ i, 0 ≤ i → i ≤ 514 → ∀ (f : SS), (∀ q, f q = if 0 ≤ q ∧ q < i then c 208 (514 * v1 + q) else c 190 q) → T (d + 1) 263 27 [some (aR 188), some (aI v1), some (aI i)] [] (G, q_uf c1 190 f) (QM Q) := by
      refine int_ind ?_ ?_
      · intro f hf
        refine b263_27 hG (by intros; omega) ?_ (by intros; omega) (by intros; omega) rfl (by intros; omega) (by intros; omega) ?_
        · intro p3
          have := k2 0 (by omega) (by omega) f (c1 193) hf (fun q => by rw [if_neg (by omega), q1 193 (by omega)])
          rw [uf_id2 (show c1 193 = (q_uf c1 190 f) 193 by rw [uf_n (by omega)])] at this
          exact this
        · intro p3; omega
      · intro i q3 q4 ih f hf
        refine b263_27 hG (by intros; omega) ?_ (by intros; omega) (by intros; omega) ((uf_n2 (by omega)).trans (congrFun (q1 208 (by omega)) _)) (by intros; omega) (by intros; omega) ?_
        · intro p3; omega
        · intro p3
          rw [uf_up]
          refine ih _ (fun q => ?_)
          by_cases hq : q = i
          · rw [hq, u1_e, if_pos (by omega)]
          · rw [u1_n hq, hf q]
            by_cases h3 : 0 ≤ q ∧ q < i
            · rw [if_pos h3, if_pos (by omega)]
            · rw [if_neg h3, if_neg (by omega)]
    have := k1 0 (by omega) (by omega) (c1 190) (fun q => by rw [if_neg (by omega), q1 190 (by omega)])
    rw [uf_id] at this
    exact this
  · intro p1 p2; omega
theorem GR_restore (h : GR cA cB) {a : Nat} (hk : (k = 0 ∧ a = 141) ∨ (k = 1 ∧ a = 164)) (hI : GI1 cA cB a k) (ht : cB 210 k = 1)
    (a1 : ∀ r, (r < 9 ∨ (17 < r ∧ r < 27) ∨ (34 < r ∧ r < 43) ∨ 47 < r) → ¬ r = 53 → cA' r = cA r) (a2 : RR cA' 9 (imgF cB k)) (a3 : LR cA' 27 (imgF cB k)) (a4 : SnR cA' 43 (imgF cB k)) (a5 : (∀ j, 0 ≤ j → j < 6 → cA' 10 j = cA (a + 2) j) ∧ ∀ j, 0 ≤ j → j < 8 → cA' 11 j = cA (a + 3) j) (a6 : cA' 53 1 = 0) (a7 : cA' 53 2 = cA 53 2)
    (b1 : ∀ r, ¬ r = 188 → ¬ r = 190 → ¬ r = 193 → cB' r = cB r) (b2 : ∀ i, ¬ i = 0 → ¬ i = 23 → cB' 188 i = cB 188 i) (b3 : cB' 188 23 = 0) (b4 : ∀ q, cB' 190 q = if 0 ≤ q ∧ q < 514 then cB 208 (514 * k + q) else cB 190 q) (b5 : ∀ q, cB' 193 q = if 0 ≤ q ∧ q < 14 then cB 209 (14 * k + q) else cB 193 q) : GR cA' cB' := by
  obtain ⟨r1, r2, r3, r4, r5, r6, r7, r8, r9⟩ := h
  obtain ⟨g1, g2, g3, g4, g5⟩ := hI.2.2 ht
  have hq : EqS (imgF cB k) (cB' 190) := fun i p q => by rw [b4, if_pos ⟨p, q⟩]; rfl
  have hr := g1.1.1
  refine ⟨GS_q hq g1, ⟨RR_q hq (by omega) a2, Nms_q g5 ⟨hq 0 (by omega) (by omega), hq 1 (by omega) (by omega)⟩ (by omega) a5 (fun j p q => by rw [show 0 + j = j by omega, b5, if_pos ⟨p, q⟩]), SnR_q hq a4⟩, LR_q hq (by omega) a3, GT_fr r4 (by rw [a1 2 (by omega) (by omega)]) (by rw [a1 2 (by omega) (by omega)]) (a1 _ (by omega) (by omega)) (a1 _ (by omega) (by omega)) (b2 _ (by omega) (by omega)) (b2 _ (by omega) (by omega)) (b1 _ (by omega) (by omega) (by omega)) (b1 _ (by omega) (by omega) (by omega)), ⟨⟨by rw [a6, b3], by rw [b3]; omega, by rw [b3]; omega, by rw [a7]; exact r5.1.2.2.2.1, by rw [a7]; exact r5.1.2.2.2.2⟩, fun j p q => by rw [b3] at q; omega⟩, GM_fr r6 (a1 _ (by omega) (by omega)) (b2 _ (by omega) (by omega)) (b1 _ (by omega) (by omega) (by omega)), GW_fr r7 (a1 _ (by omega) (by omega)) (b2 _ (by omega) (by omega)) (b1 _ (by omega) (by omega) (by omega)), GB_fr r8 (fun i _ _ => by rw [a1 120 (by omega) (by omega)]) (b2 _ (by omega) (by omega)) (b1 _ (by omega) (by omega) (by omega)) (a1 _ (by omega) (by omega)) (a1 _ (by omega) (by omega)) (b1 _ (by omega) (by omega) (by omega)) (b1 _ (by omega) (by omega) (by omega)), GI_fr r9 (fun r p q => a1 r (by omega) (by omega)) (b1 _ (by omega) (by omega) (by omega)) (b1 _ (by omega) (by omega) (by omega)) (b1 _ (by omega) (by omega) (by omega))⟩
theorem op_restore (hG : Shp G) (h : GR cA cB) (h1 : I32 v1) : OP G (d + 50) 135 263 [aI v1] cA cB := by
  obtain ⟨o1, o2, o3, o4⟩ := ok_141 hG
  have hI := h.2.2.2.2.2.2.2.2
  by_cases hw : 0 ≤ v1 ∧ v1 ≤ 1
  · have none_ : cB 210 v1 = 0 → ∀ Q : Option AV → HH → Prop, Q (some (aI 0)) (G, q_up cB 188 0 0) → TM (d + 50) 263 [aR 188, aI v1] (G, cB) Q := by
      intro ht Q hz
      have e : (q_up cB 188 0 0) 210 v1 = 0 := by rw [up_n (by omega)]; exact ht
      generalize hc : cB = c at *
      refine b263_0 hG ?_
      refine r_isIn hG h1 (by omega) (by omega) ?_
      rw [if_pos hw]
      refine b263_11 hG (by intros; omega) ?_ (by intros; omega) (by intros; omega) rfl (by intros; omega) ?_ ?_
      · intro p1; omega
      · intro p1 p2; exact absurd e p2
      · intro p1 p2; exact hz
    have : v1 = 0 ∨ v1 = 1 := by omega
    rcases this with rfl | rfl
    · obtain ⟨f1, f2, f3⟩ := hI.1
      by_cases ht : cB 210 0 = 1
      · refine b135_0 hG o1 TM_eqo (by omega) ?_ (by intros; omega) (by intros; omega) o3 f1 (by intros; omega) ?_ ?_ ?_
        · intro p1; omega
        · intro p1 p2 p3
          refine c_imgBack141 hG hI.1 ht (fun c1 g1 g2 g3 g4 g5 => ?_)
          refine b135_51 hG TM_eqo ?_
          refine b13_0 hG ?_
          refine b135_58 hG ?_
          refine ⟨_, rfl, fun r hr => by rw [up_r (by omega)]; exact g1 r (by omega), r_restore hG h1 hw ht (fun c2 m1 m2 m3 m4 m5 => ⟨c2, rfl, GR_restore (k := 0) h (Or.inl ⟨rfl, rfl⟩) hI.1 ht (fun r p q => by rw [up_r q]; exact g1 r p) (RR_fr g2 (fun r p q => up_r (by omega))) (LR_fr g3 (fun r p q => up_r (by omega))) (SnR_fr g4 (up_r (by omega)) (up_r (by omega)) (up_r (by omega)) (up_r (by omega))) ⟨fun j p q => by rw [up_r (by omega)]; exact g5.1 j p q, fun j p q => by rw [up_r (by omega)]; exact g5.2 j p q⟩ up_e (by rw [up_n (by omega), g1 53 (by omega)]) m1 m2 m3 m4 m5, 1, rfl, rfl, by omega⟩)⟩
        · intro p1 p2 p3; omega
        · intro p1 p2; omega
      · refine op_q (v := 0) h (by omega) ?_ (none_ (by omega))
        intro Q hz
        refine b135_0 hG o1 TM_eqo (by omega) ?_ (by intros; omega) (by intros; omega) o3 f1 (by intros; omega) ?_ ?_ ?_
        · intro p1; omega
        · intro p1 p2 p3; omega
        · intro p1 p2 p3; exact hz
        · intro p1 p2; omega
    · obtain ⟨f1, f2, f3⟩ := hI.2
      by_cases ht : cB 210 1 = 1
      · refine b135_0 hG o2 TM_eqo (by omega) ?_ (by intros; omega) (by intros; omega) o4 f1 (by intros; omega) ?_ ?_ ?_
        · intro p1; omega
        · intro p1 p2 p3
          refine c_imgBack164 hG hI.2 ht (fun c1 g1 g2 g3 g4 g5 => ?_)
          refine b135_51 hG TM_eqo ?_
          refine b13_0 hG ?_
          refine b135_58 hG ?_
          refine ⟨_, rfl, fun r hr => by rw [up_r (by omega)]; exact g1 r (by omega), r_restore hG h1 hw ht (fun c2 m1 m2 m3 m4 m5 => ⟨c2, rfl, GR_restore (k := 1) h (Or.inr ⟨rfl, rfl⟩) hI.2 ht (fun r p q => by rw [up_r q]; exact g1 r p) (RR_fr g2 (fun r p q => up_r (by omega))) (LR_fr g3 (fun r p q => up_r (by omega))) (SnR_fr g4 (up_r (by omega)) (up_r (by omega)) (up_r (by omega)) (up_r (by omega))) ⟨fun j p q => by rw [up_r (by omega)]; exact g5.1 j p q, fun j p q => by rw [up_r (by omega)]; exact g5.2 j p q⟩ up_e (by rw [up_n (by omega), g1 53 (by omega)]) m1 m2 m3 m4 m5, 1, rfl, rfl, by omega⟩)⟩
        · intro p1 p2 p3; omega
        · intro p1 p2; omega
      · refine op_q (v := 0) h (by omega) ?_ (none_ (by omega))
        intro Q hz
        refine b135_0 hG o2 TM_eqo (by omega) ?_ (by intros; omega) (by intros; omega) o4 f1 (by intros; omega) ?_ ?_ ?_
        · intro p1; omega
        · intro p1 p2 p3; omega
        · intro p1 p2 p3; exact hz
        · intro p1 p2; omega
  · refine op_q (v := 0) h (by omega) ?_ ?_
    · intro Q hz
      exact n135 hG h1 hw hz
    · intro Q hz
      generalize hc : cB = c at *
      refine b263_0 hG ?_
      refine r_isIn hG h1 (by omega) (by omega) ?_
      rw [if_neg hw]
      refine b263_11 hG (by intros; omega) ?_ (by intros; omega) (by intros; omega) rfl (by intros; omega) ?_ ?_
      · intro p1; exact hz
      · intro p1; omega
      · intro p1; omega
end SPIn
