section SPU
variable {d : Nat} {G : GG} {c c' cA cB cA1 cB1 cA' cB' : CC} {Q : Option AV → HH → Prop} {v1 v2 n nx j N : Int} {S S' : SS} {a : Nat}
theorem r_tries (hG : Shp G) (hz : ∀ f : SS, (∀ i, 0 ≤ i → i < 165 → f i = c 190 (168 + i)) → Q none (G, q_uf c 196 f)) : TM d 214 [aR 188] (G, c) Q := by
  refine b214_0 hG ?_
  have key : ∀ i, 0 ≤ i → i ≤ 165 → ∀ f : SS, (∀ q, 0 ≤ q → q < i → f q = c 190 (168 + q)) → T d 214 2 [some (aR 188), some (aI i)] [] (G, q_uf c 196 f) (QM Q) := by
    refine int_ind ?_ ?_
    · intro f hf
      refine b214_2 hG (by intros; omega) ?_ (by intros; omega) (by intros; omega) rfl (by intros; omega) (by intros; omega) ?_
      · intro p1; exact hz f hf
      · intro p1; omega
    · intro i h1 h2 ih f hf
      refine b214_2 hG (by intros; omega) ?_ (by intros; omega) (by intros; omega) (uf_n2 (by omega)) (by intros; omega) (by intros; omega) ?_
      · intro p1; omega
      · intro p1
        rw [uf_up]
        refine ih _ (fun q h3 h4 => ?_)
        by_cases hq : q = i
        · rw [hq, u1_e]
        · rw [u1_n hq]; exact hf q h3 (by omega)
  have := key 0 (by omega) (by omega) (c 196) (fun q h1 h2 => by omega)
  rw [uf_id] at this
  exact this
theorem r_back (hG : Shp G) (hz : Q none (G, q_uf c 190 (mixF (c 190) (c 196)))) : TM d 215 [aR 188] (G, c) Q := by
  refine b215_0 hG ?_
  have key : ∀ i, 0 ≤ i → i ≤ 165 → ∀ f : SS, (∀ q, f q = if 168 ≤ q ∧ q < 168 + i then c 196 (q - 168) else c 190 q) → T d 215 2 [some (aR 188), some (aI i)] [] (G, q_uf c 190 f) (QM Q) := by
    refine int_ind ?_ ?_
    · intro f hf
      refine b215_2 hG (by intros; omega) ?_ (by intros; omega) (by intros; omega) rfl (by intros; omega) (by intros; omega) ?_
      · intro p1
        have : f = mixF (c 190) (c 196) := by
          funext q
          rw [hf q]
          rfl
        rw [this]; exact hz
      · intro p1; omega
    · intro i h1 h2 ih f hf
      refine b215_2 hG (by intros; omega) ?_ (by intros; omega) (by intros; omega) (uf_n2 (by omega)) (by intros; omega) (by intros; omega) ?_
      · intro p1; omega
      · intro p1
        rw [uf_up]
        refine ih _ (fun q => ?_)
        by_cases hq : q = 168 + i
        · rw [hq, u1_e, if_pos (by omega)]
          congr 1; omega
        · rw [u1_n hq, hf q]
          by_cases h3 : 168 ≤ q ∧ q < 168 + i
          · rw [if_pos h3, if_pos (by omega)]
          · rw [if_neg h3, if_neg (by omega)]
  have := key 0 (by omega) (by omega) (c 190) (fun q => by rw [if_neg (by omega)])
  rw [uf_id] at this
  exact this
theorem GR_tried (h : GR cA cB) (hA : FrL 35 cA cA') {cT : CC} (e0 : ∀ r, ¬ r = 188 → ¬ r = 196 → cT r = cB r) (e1 : ∀ i, ¬ i = 0 → ¬ i = 35 → cT 188 i = cB 188 i) : GR cA' cT := by
  refine GR_keep h ⟨fun r p => hA r (by omega), by rw [hA 2 (by omega)], by rw [hA 2 (by omega)], fun i _ _ => by rw [hA 120 (by omega)]⟩ (fun r p => hA r (by omega)) ⟨fun r p => e0 r (by omega) (by omega), fun i p => e1 i (by omega) (by omega), fun j _ _ => by rw [e0 193 (by omega) (by omega)], ?_⟩ (e0 190 (by omega) (by omega)) (e1 23 (by omega) (by omega)) (e0 195 (by omega) (by omega))
  rw [e0 190 (by omega) (by omega)]
  exact SmR_refl _
theorem r_laterOf (hG : Shp G) (hR : InvR (c 190)) (hI : InvL (c 190)) (h0 : 0 ≤ v1) (h1 : I32 v1) (hf : ∀ i, 0 ≤ i → i < 165 → c 196 i = c 190 (168 + i)) (hz : Q (some (aI (allF (cdaysF v1 (c 190))))) (G, c)) : TM (d + 5) 239 [aR 188, aI v1] (G, c) Q := by
  have hb := all_b (Ok_cdays (n := v1) hR hI).2
  refine b239_0 hG ?_
  have key : ∀ i, 0 ≤ i → i ≤ v1 → ∀ c2 : CC, InvR (c2 190) → InvL (c2 190) → T (d + 5) 239 21 [some (aR 188), none, none] [aI (allF (loopR (fun _ S => cdayF S) i v1 (c2 190)))] (G, q_uf c2 190 (loopR (fun _ S => cdayF S) i v1 (c2 190))) (QM Q) → T (d + 5) 239 2 [some (aR 188), some (aI v1), some (aI i)] [] (G, c2) (QM Q) := by
    refine int_ind ?_ ?_
    · intro c2 hR hI hz
      rw [loopR_e (by omega), uf_id] at hz
      refine b239_2 hG TM_eqo (by intros; omega) (by intros; omega) ?_ ?_
      · intro p1
        refine r_all hG ?_
        exact hz
      · intro p1; omega
    · intro i h1 h2 ih c2 hR hI hz
      rw [loopR_s h2] at hz
      refine b239_2 hG TM_eqo (by intros; omega) (by intros; omega) ?_ ?_
      · intro p1; omega
      · intro p1
        refine r_clerkDay hG hR hI ?_
        refine b239_11 hG ?_
        have ho := Ok_cday hR hI
        refine ih _ ?_ ?_ ?_
        · rw [uf_e]; exact Ok_R ho hR
        · rw [uf_e]; exact ho.2
        · rw [uf_e, uf_uf]; exact hz
  refine key 0 (by omega) h0 c hR hI ?_
  rw [loopR_0]
  show T (d + 5) 239 21 _ [aI (allF (cdaysF v1 (c 190)))] (G, q_uf c 190 (cdaysF v1 (c 190))) _
  refine b239_21 hG TM_eqo ?_
  refine r_back hG ?_
  refine b239_26 hG ?_
  rw [uf_uf, uf_e, uf_n (show ¬ (196 : Nat) = 190 by omega), mix_same (SmR_cdays (n := v1) (by have := hR.1; omega)) hf, uf_id]
  exact hz
theorem op_later (hG : Shp G) (h : GR cA cB) (h1 : I32 v1) : OP G (d + 50) 145 240 [aI v1] cA cB := by
  have hS := h.1
  have hR := h.1.1
  have hI := h.1.2.1
  have hr := h.2.1.1
  have hL := h.2.2.1
  have hg := hR.1
  by_cases hw : 1 ≤ v1 ∧ v1 ≤ 60
  · have hb := all_b (Ok_cdays (n := v1) hR hI).2
    have hm : ∀ cA', FrL 35 cA cA' → TM (d + 50) 240 [aR 188, aI v1] (G, cB) (fun r2 h2 => ∃ cB', h2 = (G, cB') ∧ GR cA' cB' ∧ ∃ v, (some (aI (allF (cdaysF v1 (cB 190))))) = some (aI v) ∧ r2 = some (aI v) ∧ I32 v) := by
      intro cA' fA
      obtain ⟨q1, q2⟩ := thr_e (cB := cB)
      refine b240_0 hG ?_
      generalize hc1 : q_up cB 188 0 0 = c1 at q1 q2 ⊢
      have e190 := q1 190 (by omega)
      refine r_isIn hG h1 (by omega) (by omega) ?_
      rw [if_pos hw]
      refine b240_12 hG (by intros; omega) ?_ ?_
      · intro p1
        refine r_tries hG (fun f hf => ?_)
        refine b240_21 hG TM_eqo ?_
        refine r_laterOf hG (by rw [uf_n (by omega), e190]; exact hR) (by rw [uf_n (by omega), e190]; exact hI) (by omega) h1 (fun i q3 q4 => by rw [uf_e, uf_n2 (by omega)]; exact hf i q3 q4) ?_
        refine b240_26 hG ?_
        rw [uf_n (show ¬ (190 : Nat) = 196 by omega), e190]
        refine ⟨_, rfl, GR_tried h fA (fun r p1 p2 => by rw [uf_n p2]; exact q1 r p1) (fun i p1 _ => by rw [uf_n2 (by omega)]; exact q2 i p1), _, rfl, rfl, by omega⟩
      · intro p1; omega
    refine b145_0 hG (by intros; omega) ?_ ?_ ?_
    · intro p1; omega
    · intro p1 p2
      refine c_copyLife hG lf35 lf27 (Or.inr (by omega)) (fun cA1 f1 l1 => ?_)
      have l1 := l1 _ hR hL
      refine b145_24 hG TM_eqo ?_
      refine c_passClerkDays hG lf35 hR hI (RR_L hr lf35 f1) l1 h1 (fun cA2 f2 l2 => ?_)
      refine b145_32 hG TM_eqo ?_
      refine c_allDebts hG lf35 l2 ?_
      refine b145_39 hG ?_
      have f12 := FrL_tr f1 f2
      exact ⟨cA2, rfl, fun r hr => f12 r (by omega), hm cA2 f12⟩
    · intro p1 p2; omega
  · refine op_none (v := -1) h (by omega) ?_ ?_
    · intro Q hz
      refine b145_0 hG (by intros; omega) ?_ ?_ ?_
      · intro p1; exact hz
      · intro p1 p2; omega
      · intro p1 p2; exact hz
    · intro Q hz
      generalize hc : cB = c at *
      refine b240_0 hG ?_
      refine r_isIn hG h1 (by omega) (by omega) ?_
      rw [if_neg hw]
      refine b240_12 hG (by intros; omega) ?_ ?_
      · intro p1; omega
      · intro p1; exact hz
def endL : Nat → SS → Int
  | 0, S => if allF S = 0 then S 168 else -1
  | n + 1, S => if allF S = 0 then S 168 else endL n (cdayF S)
theorem endL_b : ∀ (n : Nat) (S : SS), InvR S → InvL S → S 168 + n ≤ 20000 → -1 ≤ endL n S ∧ endL n S ≤ 20000 := by
  intro n
  induction n with
  | zero =>
    intro S hR hI hb
    have := hI.2.2.2.2.2.2.1
    unfold endL
    split <;> omega
  | succ n ih =>
    intro S hR hI hb
    have := hI.2.2.2.2.2.2.1
    have ho := Ok_cday hR hI
    have := ih (cdayF S) (Ok_R ho hR) ho.2 (by rw [cday_168 hR hI]; omega)
    unfold endL
    split <;> omega
theorem op_ends (hG : Shp G) (h : GR cA cB) : OP G (d + 50) 144 238 [] cA cB := by
  have hS := h.1
  have hR := h.1.1
  have hI := h.1.2.1
  have hr := h.2.1.1
  have hL := h.2.2.1
  have hg := hR.1
  have gb := GS_b hS
  have hv := endL_b 400 (cB 190) hR hI (by omega)
  have hm : ∀ cA', FrL 35 cA cA' → TM (d + 50) 238 [aR 188] (G, cB) (fun r2 h2 => ∃ cB', h2 = (G, cB') ∧ GR cA' cB' ∧ ∃ v, (some (aI (endL 400 (cB 190)))) = some (aI v) ∧ r2 = some (aI v) ∧ I32 v) := by
    intro cA' fA
    obtain ⟨q1, q2⟩ := thr_e (cB := cB)
    refine b238_0 hG ?_
    generalize hc1 : q_up cB 188 0 0 = c1 at q1 q2 ⊢
    have e190 := q1 190 (by omega)
    refine r_tries hG (fun f hf => ?_)
    rw [e190] at hf
    refine b238_9 hG ?_
    have fin : ∀ (X : SS) (v : Int), SmR (cB 190) X → T (d + 50) 238 57 [none, some (aI v), none] [] (G, q_uf (q_uf c1 196 f) 190 (cB 190)) (QM (fun r2 h2 => ∃ cB', h2 = (G, cB') ∧ GR cA' cB' ∧ ∃ v, (some (aI (endL 400 (cB 190)))) = some (aI v) ∧ r2 = some (aI v) ∧ I32 v)) → TM (d + 49) 215 [aR 188] (G, q_uf (q_uf c1 196 f) 190 X) (fun r h' => T (d + 50) 238 57 [none, some (aI v), none] (r.toList ++ []) h' (QM (fun r2 h2 => ∃ cB', h2 = (G, cB') ∧ GR cA' cB' ∧ ∃ v, (some (aI (endL 400 (cB 190)))) = some (aI v) ∧ r2 = some (aI v) ∧ I32 v))) := by
      intro X v hX hk
      refine r_back hG ?_
      rw [uf_uf, uf_e, uf_n (show ¬ (196 : Nat) = 190 by omega), uf_e, mix_same hX hf]
      exact hk
    have last : T (d + 50) 238 57 [none, some (aI (endL 400 (cB 190))), none] [] (G, q_uf (q_uf c1 196 f) 190 (cB 190)) (QM (fun r2 h2 => ∃ cB', h2 = (G, cB') ∧ GR cA' cB' ∧ ∃ v, (some (aI (endL 400 (cB 190)))) = some (aI v) ∧ r2 = some (aI v) ∧ I32 v)) := by
      refine b238_57 hG ?_
      refine ⟨_, rfl, GR_tried h fA (fun r p1 p2 => ?_) (fun i p1 _ => ?_), _, rfl, rfl, by omega⟩
      · by_cases hr : r = 190
        · subst hr; rw [uf_e]
        · rw [uf_n hr, uf_n p2]; exact q1 r p1
      · rw [uf_n2 (by omega), uf_n2 (by omega)]; exact q2 i p1
    have key : ∀ i, 0 ≤ i → i ≤ 401 → ∀ X : SS, SmR (cB 190) X → InvL X → X 168 = cB 190 168 + i → (endL 400 (cB 190) = if i ≤ 400 then endL (400 - i).toNat X else -1) → T (d + 50) 238 13 [some (aR 188), some (aI (-1)), some (aI i)] [] (G, q_uf (q_uf c1 196 f) 190 X) (QM (fun r2 h2 => ∃ cB', h2 = (G, cB') ∧ GR cA' cB' ∧ ∃ v, (some (aI (endL 400 (cB 190)))) = some (aI v) ∧ r2 = some (aI v) ∧ I32 v)) := by
      refine int_ind ?_ ?_
      · intro X hX hIX eX he
        rw [if_neg (by omega)] at he
        refine b238_13 hG TM_eqo (by intros; omega) ?_ (by intros; omega) ?_ ?_
        · intro p1
          refine fin X (-1) hX ?_
          rw [show (-1 : Int) = endL 400 (cB 190) from he.symm]
          exact last
        · intro p1; omega
        · intro p1; omega
      · intro i h3 h4 ih X hX hIX eX he
        rw [if_pos (by omega)] at he
        have hRX := InvR_sm hX hR
        have ab := all_b hIX
        refine b238_13 hG TM_eqo (by intros; omega) ?_ (by intros; omega) ?_ ?_
        · intro p1; omega
        · intro p1 p2; omega
        · intro p1 p2
          refine r_all hG ?_
          rw [uf_e]
          refine b238_28 hG (by intros; omega) ?_ rfl ?_
          · intro p3
            refine r_clerkDay hG (by rw [uf_e]; exact hRX) (by rw [uf_e]; exact hIX) ?_
            rw [uf_uf, uf_e]
            refine b238_47 hG ?_
            have ho := Ok_cday hRX hIX
            refine ih (cdayF X) (SmR_tr hX ho.1) ho.2 (by rw [cday_168 hRX hIX]; omega) ?_
            rw [he]
            by_cases hi : i = 400
            · rw [if_neg (by omega), hi]
              show (if allF X = 0 then X 168 else -1) = _
              rw [if_neg p3]
            · rw [if_pos (by omega), show (400 - i).toNat = (400 - (i + 1)).toNat + 1 by omega]
              show (if allF X = 0 then X 168 else _) = _
              rw [if_neg p3]
          · intro p3
            have hx0 : 0 ≤ X 168 := by omega
            have he2 : endL 400 (cB 190) = X 168 := by
              rw [he]
              by_cases hi : (400 - i).toNat = 0
              · rw [hi]; exact if_pos p3
              · obtain ⟨m, hm⟩ : ∃ m, (400 - i).toNat = m + 1 := ⟨(400 - i).toNat - 1, by omega⟩
                rw [hm]; exact if_pos p3
            rw [show (q_uf (q_uf c1 196 f) 190 X) 190 168 = X 168 by rw [uf_e]]
            refine b238_47 hG ?_
            refine b238_13 hG TM_eqo (by intros; omega) ?_ (by intros; omega) ?_ ?_
            · intro p4
              refine fin X _ hX ?_
              rw [← he2]
              exact last
            · intro p4 p5
              refine fin X _ hX ?_
              rw [← he2]
              exact last
            · intro p4 p5; omega
    have h0 := key 0 (by omega) (by omega) (cB 190) (SmR_refl _) hI (by omega) (by rw [if_pos (by omega)]; rfl)
    have e2 : q_uf (q_uf c1 196 f) 190 (cB 190) = q_uf c1 196 f := uf_id2 (by rw [uf_n (by omega), e190])
    rw [e2] at h0
    exact h0
  refine b144_0 hG ?_
  refine c_copyLife hG lf35 lf27 (Or.inr (by omega)) (fun cA1 f1 l1 => ?_)
  have l1 := l1 _ hR hL
  refine b144_11 hG ?_
  have key : ∀ i, 0 ≤ i → i ≤ 400 → ∀ (X : SS) (c2 : CC), SmR (cB 190) X → InvL X → X 168 = cB 190 168 + i → LR c2 35 X → FrL 35 cA c2 → (endL 400 (cB 190) = endL (400 - i).toNat X) → T (d + 50) 144 13 [some (aR 1), some (aI i)] [] (G, c2) (QM (fun r1 h1 => ∃ cA', h1 = (G, cA') ∧ (∀ r, 188 ≤ r → cA' r = cA r) ∧ TM (d + 50) 238 [aR 188] (G, cB) (fun r2 h2 => ∃ cB', h2 = (G, cB') ∧ GR cA' cB' ∧ ∃ v, r1 = some (aI v) ∧ r2 = some (aI v) ∧ I32 v))) := by
    refine int_ind ?_ ?_
    · intro X c2 hX hIX eX lX fX he
      have ab := all_b hIX
      have e1 := lX.1.1.1
      refine b144_13 hG TM_eqo (by intros; omega) ?_ ?_
      · intro p1
        refine c_allDebts hG lf35 lX ?_
        refine b144_59 hG (by intros; omega) ?_ rfl ?_
        · intro p2
          refine ⟨c2, rfl, fun r hr => fX r (by omega), ?_⟩
          have := hm c2 fX
          rw [he] at this
          rw [show endL (400 - 400 : Int).toNat X = -1 from if_neg p2] at this
          exact this
        · intro p2
          refine ⟨c2, rfl, fun r hr => fX r (by omega), ?_⟩
          have := hm c2 fX
          rw [he, show endL (400 - 400 : Int).toNat X = X 168 from if_pos p2] at this
          rw [e1]
          exact this
      · intro p1; omega
    · intro i h3 h4 ih X c2 hX hIX eX lX fX he
      have hRX := InvR_sm hX hR
      have ab := all_b hIX
      have e1 := lX.1.1.1
      rw [show (400 - i).toNat = (400 - (i + 1)).toNat + 1 by omega] at he
      have he : endL 400 (cB 190) = if allF X = 0 then X 168 else endL (400 - (i + 1)).toNat (cdayF X) := he
      refine b144_13 hG TM_eqo (by intros; omega) ?_ ?_
      · intro p1; omega
      · intro p1
        refine c_allDebts hG lf35 lX ?_
        refine b144_27 hG (by intros; omega) ?_ rfl ?_
        · intro p2
          rw [if_neg p2] at he
          refine c_passClerkDays hG lf35 hRX hIX (RR_S (RR_L hr lf35 fX) hX (by omega)) lX (by omega) (fun c3 f3 l3 => ?_)
          have e3 : cdaysF 1 X = cdayF X := by
            unfold cdaysF
            have := loopI_s (f := fun _ S => cdayF S) (x := X) (n := 0) (by omega)
            rw [show (0 : Int) + 1 = 1 by omega, loopI_0 (n := 0) (by omega)] at this
            exact this
          rw [e3] at l3
          refine b144_46 hG ?_
          have ho := Ok_cday hRX hIX
          exact ih (cdayF X) c3 (SmR_tr hX ho.1) ho.2 (by rw [cday_168 hRX hIX]; omega) l3 (FrL_tr fX f3) he
        · intro p2
          rw [if_pos p2] at he
          refine ⟨c2, rfl, fun r hr => fX r (by omega), ?_⟩
          have := hm c2 fX
          rw [he] at this
          rw [e1]
          exact this
  exact key 0 (by omega) (by omega) (cB 190) cA1 (SmR_refl _) hI (by omega) l1 f1 rfl
end SPU
