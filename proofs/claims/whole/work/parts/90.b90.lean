section SPZ
variable {d : Nat} {G : GG} {c c' cA cB cA1 cB1 cA' cB' : CC} {Q : Option AV → HH → Prop} {v1 v2 v3 v4 n nx i j N x s : Int} {S S' : SS} {a : Nat}
def od1 (S : SS) (x b : Int) (i : Int) : Int := if allF (yrsF 30 (S, x + i)).1 < b then 1 else 0
def oddF (S : SS) (x b n : Int) : Int := sumI (od1 S x b) n
theorem oddF_b {x b : Int} (hn : 0 ≤ n) : 0 ≤ oddF S x b n ∧ oddF S x b n ≤ n := cnt_b (f := fun i => allF (yrsF 30 (S, x + i)).1 < b) hn
theorem op_odds (hG : Shp G) (h : GR cA cB) (h1 : I32 v1) : OP G (d + 50) 147 245 [aI v1, aI v2] cA cB := by
  have hS := h.1
  have hR := h.1.1
  have hI := h.1.2.1
  have hr := h.2.1.1
  have e1 := hr.1
  have g := hR.1
  have hL := h.2.2.1
  by_cases hw : (1 ≤ v1 ∧ v1 ≤ 40) ∧ 1 ≤ cB 190 0
  · obtain ⟨hw, hk⟩ := hw
    obtain ⟨B, hB⟩ : ∃ B, B = allF (cdaysF 30 (cB 190)) := ⟨_, rfl⟩
    have hbB := all_b (Ok_cdays (n := 30) hR hI).2
    rw [← hB] at hbB
    have oy := fun i => (Ok_yrs (S := cB 190) (p := (cB 190, v2 + i)) (n := 30) hR hk (Ok_refl hI) (fun h => h) (by omega)).1
    have ob := fun n (hn : 0 ≤ n) => oddF_b (S := cB 190) (x := v2) (b := B) (n := n) hn
    have hm : ∀ cA', FrL 35 cA cA' → TM (d + 50) 245 [aR 188, aI v1, aI v2] (G, cB) (fun r2 h2 => ∃ cB', h2 = (G, cB') ∧ GR cA' cB' ∧ ∃ v, (some (aI (oddF (cB 190) v2 B v1))) = some (aI v) ∧ r2 = some (aI v) ∧ I32 v) := by
      intro cA' fA
      obtain ⟨q1, q2⟩ := thr_e (cB := cB)
      refine b245_0 hG ?_
      generalize hc1 : q_up cB 188 0 0 = c1 at q1 q2 ⊢
      have e190 := q1 190 (by omega)
      refine r_isIn hG h1 (by omega) (by omega) ?_
      rw [if_pos hw]
      have g190 : c1 190 0 = cB 190 0 := by rw [e190]
      refine b245_12 hG (by intros; omega) ?_ rfl (by intros; omega) ?_ ?_
      · intro p1; omega
      · intro p1 p2
        refine r_tries hG (fun f hf => ?_)
        rw [e190] at hf
        refine b245_30 hG ?_
        refine r_laterOf hG (by rw [uf_n (by omega), e190]; exact hR) (by rw [uf_n (by omega), e190]; exact hI) (by omega) (by omega) (fun i q3 q4 => by rw [uf_e, uf_n2 (by omega), e190]; exact hf i q3 q4) ?_
        rw [uf_n (show ¬ (190 : Nat) = 196 by omega), e190, ← hB]
        clear hB
        refine b245_36 hG ?_
        have key : ∀ i, 0 ≤ i → i ≤ v1 → ∀ c2 : CC, FrY (q_uf c1 196 f) c2 → c2 190 = cB 190 → T (d + 50) 245 43 [some (aR 188), some (aI v1), some (aI v2), some (aI B), some (aI (oddF (cB 190) v2 B i)), some (aI i)] [] (G, c2) (QM (fun r2 h2 => ∃ cB', h2 = (G, cB') ∧ GR cA' cB' ∧ ∃ v, (some (aI (oddF (cB 190) v2 B v1))) = some (aI v) ∧ r2 = some (aI v) ∧ I32 v)) := by
          refine int_ind ?_ ?_
          · intro c2 fr e2
            have := ob v1 (by omega)
            refine b245_43 hG (by intros; omega) (by intros; omega) ?_ ?_
            · intro p3
              refine ⟨c2, rfl, GR_tried h fA (fun r p1 p2 => ?_) (fun i p1 p2 => ?_), _, rfl, rfl, by omega⟩
              · by_cases hr : r = 190
                · subst hr; exact e2
                · rw [fr.1 r p1 hr, uf_n p2]; exact q1 r p1
              · rw [fr.2 i p2, uf_n2 (by omega)]; exact q2 i p1
            · intro p3; omega
          · intro i q3 q4 ih c2 fr e2
            have hoi := ob i q3
            refine b245_43 hG (by intros; omega) (by intros; omega) ?_ ?_
            · intro p3; omega
            · intro p3
              refine r_years hG (by rw [e2]; exact hR) (by rw [e2]; exact hI) (by rw [e2]; exact hk) (by omega) (by omega) (fun c3 f3 e3 => ?_)
              rw [e2] at e3 ⊢
              have hall := all_b (oy i).2
              obtain ⟨A, hA⟩ : ∃ A, A = allF (yrsF 30 (cB 190, v2 + i)).1 := ⟨_, rfl⟩
              rw [← hA] at hall
              refine b245_59 hG TM_eqo ?_
              refine r_all hG ?_
              rw [e3, ← hA]
              have f23 := FrY_tr fr f3
              have hbk : ∀ X : Int, X = oddF (cB 190) v2 B (i + 1) → TM (d + 49) 215 [aR 188] (G, c3) (fun r h' => T (d + 50) 245 82 [some (aR 188), some (aI v1), some (aI v2), some (aI B), some (aI X), some (aI i)] (r.toList ++ []) h' (QM (fun r2 h2 => ∃ cB', h2 = (G, cB') ∧ GR cA' cB' ∧ ∃ v, (some (aI (oddF (cB 190) v2 B v1))) = some (aI v) ∧ r2 = some (aI v) ∧ I32 v))) := by
                intro X hX
                refine r_back hG ?_
                rw [e3, show c3 196 = f by rw [f23.1 196 (by omega) (by omega), uf_e], mix_same (oy i).1 hf]
                refine b245_82 hG ?_
                rw [hX]
                refine ih _ ⟨fun r q5 q6 => by rw [uf_n q6]; exact f23.1 r q5 q6, fun i q5 => by rw [uf_n2 (by omega)]; exact f23.2 i q5⟩ uf_e
              have es : oddF (cB 190) v2 B (i + 1) = oddF (cB 190) v2 B i + od1 (cB 190) v2 B i := sumI_s q3
              unfold od1 at es
              rw [← hA] at es
              clear hA
              refine b245_66 hG (by intros; omega) (by intros; omega) ?_ ?_
              · intro p4
                rw [if_neg (by omega)] at es
                exact hbk _ es.symm
              · intro p4
                rw [if_pos p4] at es
                exact hbk _ es.symm
        have k0 := key 0 (by omega) (by omega) (q_uf c1 196 f) ⟨fun _ _ _ => rfl, fun _ _ => rfl⟩ (by rw [uf_n (by omega)]; exact e190)
        rw [show oddF (cB 190) v2 B 0 = 0 from sumI_0 (by omega)] at k0
        exact k0
      · intro p1 p2; omega
    refine b147_0 hG (by intros; omega) ?_ ?_ rfl (by intros; omega) ?_ ?_
    · intro p1; omega
    · intro p1 p2; omega
    · intro p1 p2 p3
      refine c_copyLife hG lf35 lf27 (Or.inr (by omega)) (fun cA1 f1 l1 => ?_)
      have l1 := l1 _ hR hL
      refine b147_35 hG ?_
      refine c_passClerkDays hG lf35 hR hI (RR_L hr lf35 f1) l1 (by omega) (fun cA2 f2 l2 => ?_)
      refine b147_44 hG ?_
      refine c_allDebts hG lf35 l2 ?_
      rw [← hB]
      clear hB
      refine b147_51 hG ?_
      have key : ∀ i, 0 ≤ i → i ≤ v1 → ∀ c2 : CC, FrL 35 cA c2 → T (d + 50) 147 58 [some (aR 1), some (aI v1), some (aI v2), some (aI B), some (aI (oddF (cB 190) v2 B i)), some (aI i)] [] (G, c2) (QM (fun r1 h1 => ∃ cA', h1 = (G, cA') ∧ (∀ r, 188 ≤ r → cA' r = cA r) ∧ TM (d + 50) 245 [aR 188, aI v1, aI v2] (G, cB) (fun r2 h2 => ∃ cB', h2 = (G, cB') ∧ GR cA' cB' ∧ ∃ v, r1 = some (aI v) ∧ r2 = some (aI v) ∧ I32 v))) := by
        refine int_ind ?_ ?_
        · intro c2 fr
          refine b147_58 hG (by intros; omega) (by intros; omega) ?_ ?_
          · intro p3
            exact ⟨c2, rfl, fun r hr => fr r (by omega), hm c2 fr⟩
          · intro p3; omega
        · intro i q3 q4 ih c2 fr
          have hoi := ob i q3
          refine b147_58 hG (by intros; omega) (by intros; omega) ?_ ?_
          · intro p3; omega
          · intro p3
            have hL2 : LR c2 27 (cB 190) := LR_fr hL (fun r q5 q6 => fr r (by omega))
            refine c_copyLife hG lf35 lf27 (Or.inr (by omega)) (fun c3 f3 l3 => ?_)
            have l3 := l3 _ hR hL2
            refine b147_75 hG ?_
            have f23 := FrL_tr fr f3
            refine c_drawn hG lf35 hR hI (RR_L hr lf35 f23) l3 hk (by omega) (by omega) (fun c4 f4 l4 => ?_)
            have hall := all_b (oy i).2
            obtain ⟨A, hA⟩ : ∃ A, A = allF (yrsF 30 (cB 190, v2 + i)).1 := ⟨_, rfl⟩
            rw [← hA] at hall
            refine b147_88 hG ?_
            refine c_allDebts hG lf35 l4 ?_
            rw [← hA]
            have es : oddF (cB 190) v2 B (i + 1) = oddF (cB 190) v2 B i + od1 (cB 190) v2 B i := sumI_s q3
            unfold od1 at es
            rw [← hA] at es
            clear hA
            refine b147_95 hG (by intros; omega) (by intros; omega) ?_ ?_
            · intro p4
              rw [if_neg (by omega)] at es
              rw [show oddF (cB 190) v2 B i = oddF (cB 190) v2 B (i + 1) by omega]
              exact ih c4 (FrL_tr f23 f4)
            · intro p4
              rw [if_pos p4] at es
              rw [← es]
              exact ih c4 (FrL_tr f23 f4)
      have k0 := key 0 (by omega) (by omega) cA2 (FrL_tr f1 f2)
      rw [show oddF (cB 190) v2 B 0 = 0 from sumI_0 (by omega)] at k0
      exact k0
    · intro p1 p2 p3; omega
  · refine op_none (v := -1) h (by omega) ?_ ?_
    · intro Q hz
      refine b147_0 hG (by intros; omega) ?_ ?_ rfl (by intros; omega) ?_ ?_
      · intro p1; exact hz
      · intro p1 p2; exact hz
      · intro p1 p2 p3; omega
      · intro p1 p2 p3; exact hz
    · intro Q hz
      clear hr hL e1
      generalize hc : cB = c at *
      refine b245_0 hG ?_
      generalize hc1 : q_up c 188 0 0 = c1 at hz ⊢
      have e190 : c1 190 = c 190 := by rw [← hc1]; rfl
      rw [← e190] at hR hI hw g
      refine r_isIn hG h1 (by omega) (by omega) ?_
      by_cases hw2 : 1 ≤ v1 ∧ v1 ≤ 40
      · rw [if_pos hw2]
        refine b245_12 hG (by intros; omega) ?_ rfl (by intros; omega) ?_ ?_
        · intro p1; omega
        · intro p1 p2; omega
        · intro p1 p2; exact hz
      · rw [if_neg hw2]
        refine b245_12 hG (by intros; omega) ?_ rfl (by intros; omega) ?_ ?_
        · intro p1; exact hz
        · intro p1; omega
        · intro p1; omega
theorem or_0 {v : Int} (h : I32 v) : q_or v 0 = v := by
  unfold q_or
  rw [show Int32.ofInt 0 = 0 from rfl, Int32.or_zero]
  exact i32_of h
theorem or_I32 {x y : Int} : I32 (q_or x y) := ⟨Int32.le_toInt _, Int32.toInt_lt _⟩
def qu1 (S : SS) (k : Int) (s acc : Int) : Int := if S (173 + s) = 0 ∧ clksF S (173 + s) = k + 1 then q_or acc (q_shl 1 s) else acc
def quF (S : SS) (k n : Int) : Int := loopI (qu1 S k) n 0
theorem quF_b : I32 (quF S v1 n) := by
  refine loopI_p (P := fun x => I32 x) (by omega) (fun i y _ _ h => ?_)
  show I32 (qu1 S v1 i y)
  unfold qu1
  split
  · exact or_I32
  · exact h
theorem op_queue (hG : Shp G) (h : GR cA cB) (h1 : I32 v1) : OP G (d + 50) 146 241 [aI v1] cA cB := by
  have hS := h.1
  have hR := h.1.1
  have hI := h.1.2.1
  have hr := h.2.1.1
  have e1 := hr.1
  have g := hR.1
  have hL := h.2.2.1
  have b1 := isK_01 (S := cB 190) (k := v1)
  have oc := Ok_clks hR hI
  by_cases hw : isK (cB 190) v1 = 1
  · obtain ⟨k1, k2⟩ := isK_t (S := cB 190) (k := v1) (by omega)
    have hm : ∀ cA', FrL 35 cA cA' → TM (d + 50) 241 [aR 188, aI v1] (G, cB) (fun r2 h2 => ∃ cB', h2 = (G, cB') ∧ GR cA' cB' ∧ ∃ v, (some (aI (quF (cB 190) v1 (cB 190 1)))) = some (aI v) ∧ r2 = some (aI v) ∧ I32 v) := by
      intro cA' fA
      obtain ⟨q1, q2⟩ := thr_e (cB := cB)
      refine b241_0 hG ?_
      generalize hc1 : q_up cB 188 0 0 = c1 at q1 q2 ⊢
      have e190 := q1 190 (by omega)
      refine r_isKind hG (by rw [e190]; exact hR) h1 ?_
      rw [e190, hw]
      refine b241_10 hG (by intros; omega) ?_ ?_
      · intro p1
        refine r_tries hG (fun f hf => ?_)
        rw [e190] at hf
        refine b241_19 hG ?_
        have e2 : (q_uf c1 196 f) 190 = cB 190 := by rw [uf_n (by omega)]; exact e190
        refine r_clerks hG (by rw [e2]; exact hR) (by rw [e2]; exact hI) ?_
        rw [e2]
        refine b241_23 hG ?_
        obtain ⟨c3, hc3⟩ : ∃ c3, c3 = q_uf (q_uf c1 196 f) 190 (clksF (cB 190)) := ⟨_, rfl⟩
        rw [← hc3]
        have f190 : c3 190 = clksF (cB 190) := by rw [hc3, uf_e]
        have f196 : c3 196 = f := by rw [hc3, uf_n (by omega), uf_e]
        have key : ∀ i, 0 ≤ i → i ≤ cB 190 1 → T (d + 50) 241 27 [some (aR 188), some (aI v1), some (aI (quF (cB 190) v1 i)), some (aI i)] [] (G, c3) (QM (fun r2 h2 => ∃ cB', h2 = (G, cB') ∧ GR cA' cB' ∧ ∃ v, (some (aI (quF (cB 190) v1 (cB 190 1)))) = some (aI v) ∧ r2 = some (aI v) ∧ I32 v)) := by
          have x1 : c3 190 1 = cB 190 1 := by rw [f190]; exact Ok_1 oc
          refine int_ind ?_ ?_
          · refine b241_27 hG TM_eqo rfl (by intros; omega) (by intros; omega) ?_ (by intros; omega) (by intros; omega) rfl (by intros; omega) (by intros; omega) ?_ (by intros; omega) (by intros; omega) rfl (by intros; omega) ?_ ?_
            · intro p3
              refine r_back hG ?_
              rw [f190, f196, mix_same oc.1 hf]
              refine b241_84 hG ?_
              refine ⟨_, rfl, GR_tried h fA (fun r p1 p2 => ?_) (fun i p1 p2 => ?_), _, rfl, rfl, quF_b⟩
              · by_cases hr : r = 190
                · subst hr; exact uf_e
                · rw [uf_n hr, hc3, uf_n hr, uf_n p2]; exact q1 r p1
              · rw [uf_n2 (by omega), hc3, uf_n2 (by omega), uf_n2 (by omega)]; exact q2 i p1
            · intro p3; omega
            · intro p3; omega
            · intro p3; omega
          · intro i q3 q4 ih
            have hci := oc.2.1 i q3 (by omega)
            have hfi := hf (5 + i) (by omega) (by omega)
            rw [show 168 + (5 + i) = 173 + i by omega] at hfi
            have hi := hI.1 i q3 (by omega)
            have hqb := quF_b (S := cB 190) (v1 := v1) (n := i)
            have es : quF (cB 190) v1 (i + 1) = qu1 (cB 190) v1 i (quF (cB 190) v1 i) := loopI_s q3
            rw [es] at ih
            unfold qu1 at ih
            have x2 : c3 190 (173 + i) = clksF (cB 190) (173 + i) := by rw [f190]
            have x3 : c3 196 (5 + i) = cB 190 (173 + i) := by rw [f196]; exact hfi
            have x4 : clksF (cB 190) 0 = cB 190 0 := Ok_0 oc
            refine b241_27 hG TM_eqo rfl (by intros; omega) (by intros; omega) ?_ (by intros; omega) (by intros; omega) rfl (by intros; omega) (by intros; omega) ?_ (by intros; omega) (by intros; omega) rfl (by intros; omega) ?_ ?_
            · intro p3; omega
            · intro p3 p4
              rw [if_neg (by omega)] at ih
              rw [or_0 hqb]; exact ih
            · intro p3 p4 p5
              rw [if_neg (by omega)] at ih
              rw [or_0 hqb]; exact ih
            · intro p3 p4 p5
              rw [if_pos (by omega)] at ih
              exact ih
        have k0 := key 0 (by omega) (by omega)
        rw [show quF (cB 190) v1 0 = 0 from loopI_0 (by omega)] at k0
        exact k0
      · intro p1; omega
    refine b146_0 hG ?_
    refine c_isKind hG hR hr h1 ?_
    rw [hw]
    refine b146_8 hG (by intros; omega) ?_ ?_
    · intro p1
      refine c_copyLife hG lf35 lf27 (Or.inr (by omega)) (fun cA1 f1 l1 => ?_)
      have l1 := l1 _ hR hL
      refine b146_24 hG ?_
      refine c_giveByClerk hG lf35 hR hI (RR_L hr lf35 f1) l1 (fun cA2 f2 l2 => ?_)
      refine b146_31 hG ?_
      have f12 := FrL_tr f1 f2
      have y1 : cA2 9 1 = cB 190 1 := by rw [f12 9 (by omega)]; exact e1.2.1
      have key : ∀ i, 0 ≤ i → i ≤ cB 190 1 → T (d + 50) 146 35 [some (aR 1), some (aI v1), some (aI (quF (cB 190) v1 i)), some (aI i)] [] (G, cA2) (QM (fun r1 h1 => ∃ cA', h1 = (G, cA') ∧ (∀ r, 188 ≤ r → cA' r = cA r) ∧ TM (d + 50) 241 [aR 188, aI v1] (G, cB) (fun r2 h2 => ∃ cB', h2 = (G, cB') ∧ GR cA' cB' ∧ ∃ v, r1 = some (aI v) ∧ r2 = some (aI v) ∧ I32 v))) := by
        refine int_ind ?_ ?_
        · refine b146_35 hG rfl (by intros; omega) (by intros; omega) ?_ (by intros; omega) (by intros; omega) rfl (by intros; omega) ?_ rfl (by intros; omega) (by intros; omega) ?_ ?_
          · intro p3
            exact ⟨cA2, rfl, fun r hr => f12 r (by omega), hm cA2 f12⟩
          · intro p3; omega
          · intro p3; omega
          · intro p3; omega
        · intro i q3 q4 ih
          have hi := hI.1 i q3 (by omega)
          have hci := oc.2.1 i q3 (by omega)
          have x4 : clksF (cB 190) 0 = cB 190 0 := Ok_0 oc
          have y2 := (hL.1.2.1 i q3 (by omega)).1
          have y2b : cA2 28 i = cB 190 (173 + i) - 1 := by rw [f12 28 (by omega)]; exact y2
          have y3 := (l2.1.2.1 i q3 (by omega)).1
          rw [show (35 : Nat) + 1 = 36 from rfl] at y3
          have es : quF (cB 190) v1 (i + 1) = qu1 (cB 190) v1 i (quF (cB 190) v1 i) := loopI_s q3
          rw [es] at ih
          unfold qu1 at ih
          refine b146_35 hG rfl (by intros; omega) (by intros; omega) ?_ (by intros; omega) (by intros; omega) rfl (by intros; omega) ?_ rfl (by intros; omega) (by intros; omega) ?_ ?_
          · intro p3; omega
          · intro p3 p4
            rw [if_neg (by omega)] at ih; exact ih
          · intro p3 p4 p5
            rw [if_neg (by omega)] at ih; exact ih
          · intro p3 p4 p5
            rw [if_pos (by omega)] at ih; exact ih
      have k0 := key 0 (by omega) (by omega)
      rw [show quF (cB 190) v1 0 = 0 from loopI_0 (by omega)] at k0
      exact k0
    · intro p1; omega
  · refine op_none (v := -1) h (by omega) ?_ ?_
    · intro Q hz
      refine b146_0 hG ?_
      refine c_isKind hG hR hr h1 ?_
      refine b146_8 hG (by intros; omega) ?_ ?_
      · intro p1; omega
      · intro p1; exact hz
    · intro Q hz
      clear hr hL e1 oc
      generalize hc : cB = c at *
      refine b241_0 hG ?_
      generalize hc1 : q_up c 188 0 0 = c1 at hz ⊢
      have e190 : c1 190 = c 190 := by rw [← hc1]; rfl
      rw [← e190] at hR b1 hw
      refine r_isKind hG hR h1 ?_
      refine b241_10 hG (by intros; omega) ?_ ?_
      · intro p1; omega
      · intro p1; exact hz
theorem op_undo (hG : Shp G) (h : GR cA cB) : OP G (d + 50) 133 213 [] cA cB := by
  have hS := h.1
  have hR := h.1.1
  have hH := h.2.2.2.2.1
  obtain ⟨⟨n1, n2, n3, n4, n5⟩, n6⟩ := hH
  have hL := h.2.2.1
  by_cases hw : cB 188 23 < 1
  · refine op_none (v := -1) h (by omega) ?_ ?_
    · intro Q hz
      have h_a := lf27
      have h_w1 := wsl_L (x := (cA 53 2 + 7) % 8) (by omega) (by omega)
      refine b133_0 hG TM_eqo ?_
      generalize hc : cA = c at *
      refine b15_0 hG h_a h_w1 TM_eqo rfl (by omega) rfl rfl rfl (by intros; omega) (by intros; omega) ?_ ?_ ?_
      · show rfR G 54 _ _
        rw [up_n (by omega), up_e, rem_eq (by omega) (by omega), show (c 53 2 + 8 - 1) = c 53 2 + 7 by omega]
        exact wsl_r hG (by omega) (by omega)
      · intro p1; omega
      · intro p1
        refine b133_11 hG ?_
        exact hz
    · intro Q hz
      generalize hc : cB = c at *
      refine b213_0 hG (up_n (by omega)) (by intros; omega) (up_n (by omega)) ?_ ?_
      · intro p1; omega
      · intro p1; exact hz
  · obtain ⟨u, hu⟩ : ∃ u, u = cB 188 23 - 1 := ⟨_, rfl⟩
    obtain ⟨g1, g2⟩ := n6 u (by omega) (by omega)
    obtain ⟨X, hX⟩ : ∃ X, X = mixF (cB 190) (fun i => cB 195 (165 * u + i)) := ⟨_, rfl⟩
    rw [← hX] at g1 g2
    have hsm : SmR (cB 190) X := fun i hi => by rw [hX]; exact if_neg (by omega)
    obtain ⟨nx, hnx⟩ : ∃ nx, nx = (cA 53 2 + 7) % 8 := ⟨_, rfl⟩
    have hsl : hslot (cB 188 23) (cA 53 2) u = wsl nx := by rw [hsl_eq]; congr 1; omega
    rw [hsl] at g2
    have hwb := wsl_b (nx := nx) (by omega)
    have hm : ∀ cA', (∀ r, ¬ r = 53 → ¬ (27 ≤ r ∧ r ≤ 34) → cA' r = cA r) → cA' 53 1 = u → cA' 53 2 = nx → LR cA' 27 X → TM (d + 50) 213 [aR 188] (G, cB) (fun r2 h2 => ∃ cB', h2 = (G, cB') ∧ GR cA' cB' ∧ ∃ v, (some (aI u)) = some (aI v) ∧ r2 = some (aI v) ∧ I32 v) := by
      intro cA' fA a1 a2 a3
      obtain ⟨q1, q2⟩ := thr_e (cB := cB)
      refine b213_0 hG (up_n (by omega)) (by intros; omega) (up_n (by omega)) ?_ ?_
      · intro p1
        generalize hc1 : q_up cB 188 0 0 = c1 at q1 q2 ⊢
        rw [← hu]
        have key : ∀ i, 0 ≤ i → i ≤ 165 → ∀ f : SS, (∀ q, f q = if 168 ≤ q ∧ q < 168 + i then cB 195 (165 * u + (q - 168)) else cB 190 q) → T (d + 50) 213 26 [some (aR 188), some (aI i)] [] (G, q_uf (q_up c1 188 23 u) 190 f) (QM (fun r2 h2 => ∃ cB', h2 = (G, cB') ∧ GR cA' cB' ∧ ∃ v, (some (aI u)) = some (aI v) ∧ r2 = some (aI v) ∧ I32 v)) := by
          refine int_ind ?_ ?_
          · intro f hf
            refine b213_26 hG (by intros; omega) ((uf_n2 (by omega)).trans up_e) ?_ ((uf_n2 (by omega)).trans up_e) (by intros; omega) (by intros; omega) rfl (by intros; omega) (by intros; omega) ?_
            · intro p3
              have hfX : f = X := by
                funext q
                rw [hf q, hX]
                rfl
              rw [hfX]
              have oB : ∀ r, ¬ r = 188 → ¬ r = 190 → (q_uf (q_up c1 188 23 u) 190 X) r = cB r := fun r p1 p2 => by rw [uf_n p2, up_r p1]; exact q1 r p1
              refine ⟨_, rfl, GR_mk h ⟨fun r p => fA r (by omega) (by omega), by rw [fA 2 (by omega) (by omega)], by rw [fA 2 (by omega) (by omega)], fun i _ _ => by rw [fA 120 (by omega) (by omega)]⟩ ⟨fun r p => oB r (by omega) (by omega), fun i p => ?_, fun j _ _ => by rw [oB 193 (by omega) (by omega)], by rw [uf_e]; exact hsm⟩ (by rw [uf_e]; exact g1) (by rw [uf_e]; exact a3) ?_, u, rfl, rfl, by omega⟩
              · rw [uf_n2 (by omega), up_n (by omega)]; exact q2 i (by omega)
              · refine ⟨⟨?_, ?_, ?_, ?_, ?_⟩, fun j p4 p5 => ?_⟩
                · rw [uf_n2 (by omega), up_e]; exact a1
                · rw [uf_n2 (by omega), up_e]; omega
                · rw [uf_n2 (by omega), up_e]; omega
                · rw [a2]; omega
                · rw [a2]; omega
                · rw [uf_n2 (by omega), up_e] at p5
                  rw [uf_n2 (by omega), up_e, a2, uf_e, oB 195 (by omega) (by omega)]
                  obtain ⟨g3, g4⟩ := n6 j p4 (by omega)
                  have hs2 : hslot u nx j = hslot (cB 188 23) (cA 53 2) j := by rw [hsl_eq, hsl_eq]; congr 1; omega
                  rw [mix_c hsm, hs2]
                  refine ⟨g3, LR_fr g4 (fun r q5 q6 => fA r ?_ ?_)⟩
                  · rw [hsl_eq] at q5; unfold wsl at q5; omega
                  · rw [hsl_eq] at q5; unfold wsl at q5; omega
            · intro p3; omega
          · intro i q3 q4 ih f hf
            refine b213_26 hG (by intros; omega) ((uf_n2 (by omega)).trans up_e) ?_ ((uf_n2 (by omega)).trans up_e) (by intros; omega) (by intros; omega) ((uf_n2 (by omega)).trans ((up_n (by omega)).trans (congrFun (q1 195 (by omega)) _))) (by intros; omega) (by intros; omega) ?_
            · intro p3; omega
            · intro p3
              rw [uf_up]
              refine ih _ (fun q => ?_)
              by_cases hq : q = 168 + i
              · rw [hq, u1_e, if_pos (by omega)]
                congr 1; omega
              · rw [u1_n hq, hf q]
                by_cases h3 : 168 ≤ q ∧ q < 168 + i
                · rw [if_pos h3, if_pos (by omega)]
                · rw [if_neg h3, if_neg (by omega)]
        have k0 := key 0 (by omega) (by omega) (cB 190) (fun q => by rw [if_neg (by omega)])
        have e2 : q_uf (q_up c1 188 23 u) 190 (cB 190) = q_up c1 188 23 u := uf_id2 (by rw [up_r (by omega)]; exact (q1 190 (by omega)).symm)
        rw [e2] at k0
        exact k0
      · intro p1; omega
    have h_a := lf27
    have h_w1 := wsl_L (x := nx) (by omega) (by omega)
    refine b133_0 hG TM_eqo ?_
    have er : q_rem (cA 53 2 + 8 - 1) 8 = nx := by rw [rem_eq (by omega) (by omega), hnx]; congr 1; omega
    refine b15_0 hG h_a h_w1 TM_eqo n1 (by omega) rfl (up_n (by omega)) (up_n (by omega)) ?_ ?_ ?_ ?_ ?_
    · intro p1
      rw [up_e, er]; omega
    · intro p1
      rw [up_e, er]; omega
    · rw [up_e, er]
      exact wsl_r hG (by omega) (by omega)
    · intro p1
      rw [er, n1, ← hu]
      refine c_copyLife hG h_a h_w1 (Or.inl (by omega)) (fun c3 f3 l3 => ?_)
      have l3 := l3 X g1.1 (LR_fr g2 (fun r q1 q2 => by rw [up_r (by omega), up_r (by omega)]))
      have x1 : c3 53 1 = u := by rw [f3 53 (by omega), up_e]
      refine b15_55 hG rfl ?_
      refine b133_11 hG ?_
      rw [x1]
      refine ⟨c3, rfl, fun r hr => by rw [f3 r (by omega), up_r (by omega), up_r (by omega)], hm c3 (fun r q1 q2 => by rw [f3 r (by omega), up_r q1, up_r q1]) x1 ?_ l3⟩
      rw [f3 53 (by omega), up_n (by omega), up_e]
    · intro p1; omega
end SPZ
