section SPag
variable {d : Nat} {G : GG} {c c' c0 : CC} {Q : Option AV → HH → Prop} {S : SS} {m K k js v t x y j j0 i N s o b n fb : Int} {L f way w : Int → Int}
def DfY (S : SS) (o i : Int) (w : Int → Int) (c c' : CC) : Prop := (∀ q, ¬ q = 133 → ¬ q = 135 → c' q = c q) ∧ (∀ x, 0 ≤ x → x < S 0 → c' 133 x = c 133 x) ∧ (∀ q, q < o → c' 135 q = c 135 q) ∧ (∀ j, i ≤ j → j < mT S → c' 135 (wT S j) = sgW S w j) ∧ ∀ q, o ≤ q → q < S 1 → S (197 + q) = 0 → c' 135 q = S (173 + q) - 1
def DfN (S : SS) (o : Int) (c c' : CC) : Prop := (∀ q, ¬ q = 133 → ¬ q = 135 → c' q = c q) ∧ (∀ x, 0 ≤ x → x < S 0 → c' 133 x = c 133 x) ∧ ∀ q, q < o → c' 135 q = c 135 q
theorem c_four (hG : Shp G) (hR : InvR S) (hI : InvL S) (hs : 0 ≤ s ∧ s < S 1) (hsz : ¬ S (197 + s) = 0) (hk : 0 ≤ k ∧ k < S 0) (hka : bt (S (51 + s)) k = 1) (hne : ¬ S (173 + s) - 1 = k) : ∀ (n : Nat) (D : Nat) (o b : Int) (way : Int → Int) (c : CC) (Q : Option AV → HH → Prop), n + n + n + 4 ≤ D → o + n = S 1 → 0 ≤ o → MsL c S → c 132 5 = s → c 132 6 = k → DfS S s k fb b way (c 133) o (twN S o).1 → (∀ c' w, fstW S s k fb (mT S - (twN S o).1).toNat (twN S o).1 way = some w → DfY S o (twN S o).1 w c c' → Q (some (aI 1)) (G, c')) → (∀ c', fstW S s k fb (mT S - (twN S o).1).toNat (twN S o).1 way = none → DfN S o c c' → Q (some (aI 0)) (G, c')) → TM D 4 [aR 132, aI o, aI b] (G, c) Q := by
  have g := hR.1
  obtain ⟨js, js1, js2, ejs⟩ := wT_all hR hs.1 hs.2 hsz
  have ecs : cuT S js = S (173 + s) - 1 := by unfold cuT; rw [ejs]
  intro n
  induction n with
  | zero =>
    intro D o b way c Q hD ho h0 hM e5 e6 hDf hz1 hz0
    obtain ⟨D, rfl⟩ : ∃ D', D = D' + 1 := ⟨D - 1, by omega⟩
    have e : o = S 1 := by omega
    have ei : (twN S o).1 = mT S := by rw [e]; rfl
    obtain ⟨h1, ⟨h2, h3, h3'⟩, h4, h5⟩ := hDf
    rw [ei] at h1 h2 h4 h5
    have hF : feF S s k way = 1 := (fe_iff hR).mpr ⟨h4, fun x x1 x2 => by
      have := h1 x x1 x2
      rw [if_neg (fun z => by omega)] at this
      omega⟩
    rw [if_neg (show ¬ o ≤ s by omega)] at h2
    have hfs : fstW S s k fb (mT S - (twN S o).1).toNat (twN S o).1 way = some way := by
      rw [ei, show mT S - mT S = 0 by omega]
      exact if_pos ⟨hF, by omega⟩
    refine b4_0 hG TM_eqo (hM.2.2.1.1.2.1) (by omega) (by omega) ?_ rfl (by intros; exfalso; omega) (by intros; exfalso; omega) (by intros; exfalso; omega) rfl (by intros; exfalso; omega) rfl ?_ rfl ?_ rfl ?_ ?_
    · intro p
      exact hz1 c way hfs ⟨fun _ _ _ => rfl, fun _ _ _ => rfl, fun _ _ => rfl, fun j q1 q2 => by omega, fun q q1 q2 => by omega⟩
    all_goals (intro p; omega)
  | succ n ih =>
    intro D o b way c Q hD ho h0 hM e5 e6 hDf hz1 hz0
    obtain ⟨D, rfl⟩ : ∃ D', D = D' + 1 + 1 + 1 := ⟨D - 3, by omega⟩
    have ho1 : o < S 1 := by omega
    have lv := hM.2.2.2.1.2.1 o h0 (by omega)
    have io := hI.1 o h0 (by omega)
    have tb := (tw_ok (S := S) (N := o) o h0 (Int.le_refl _)).1
    have tp := (tw_pre (S := S) (N := S 1) h0 (S 1) (by omega) (Int.le_refl _)).1
    have etp : mT S = (twN S (S 1)).1 := rfl
    by_cases hos : o = s
    · -- who appeals
      obtain ⟨w1, w2, w3⟩ := wT_at h0 ho1 (by rw [hos]; exact hsz)
      have eij : (twN S o).1 = js := wT_inj hR tb.1 w1 js1 js2 (by rw [w2, ejs]; exact hos)
      have cb := cuT_b hR hI js1 js2
      rw [ecs] at cb
      have dk := kby_dgy (S := S) (o := s) (x := k) cb.1 hk.1
      have db := dgy_b (S := S) (o := s) (x := k) (K := S 0) ⟨cb.1, cb.2⟩ hk
      have dp : 0 < dgy S s k := by unfold dgy; rw [if_neg (fun z => hne z.symm)]; split <;> omega
      have hb5 := hDf.2.2.2
      have one : fstW S s k fb (mT S - (twN S o).1).toNat (twN S o).1 way = fstW S s k fb (mT S - (twN S (o + 1)).1).toNat (twN S (o + 1)).1 (q_u1 way (twN S o).1 (dgy S s k)) := by
        rw [w3, show (mT S - (twN S o).1).toNat = (mT S - ((twN S o).1 + 1)).toNat + 1 by omega]
        refine lp_one (g := fun a => fstW S s k fb (mT S - ((twN S o).1 + 1)).toNat ((twN S o).1 + 1) (q_u1 way (twN S o).1 a)) db.1 db.2 (fun a a1 a2 a3 => ?_)
        refine fst_none hR (by omega) (by omega) (Box_s hb5 ⟨a1, a2⟩) (fun w q1 q2 q3 q4 => ?_)
        have q5 := q4 (twN S o).1 tb.1 (by omega)
        rw [u1_e] at q5
        have q6 := (q2.1 (twN S o).1 tb.1 w1).2 (by rw [w2]; exact hos)
        have q7 : kby S s a = k := by
          have : sgW S w (twN S o).1 = kby S (wT S (twN S o).1) (w (twN S o).1) := rfl
          rw [this, w2, q5, hos] at q6; exact q6
        apply a3
        unfold kby at q7 dk
        by_cases z1 : a = 0
        · rw [if_pos z1] at q7; exact absurd q7 hne
        · rw [if_neg z1] at q7; rw [if_neg (by omega)] at dk
          by_cases z2 : S (173 + s) - 1 < a
          · rw [if_pos z2] at q7
            by_cases z3 : S (173 + s) - 1 < dgy S s k
            · rw [if_pos z3] at dk; omega
            · rw [if_neg z3] at dk; omega
          · rw [if_neg z2] at q7
            by_cases z3 : S (173 + s) - 1 < dgy S s k
            · rw [if_pos z3] at dk; omega
            · rw [if_neg z3] at dk; omega
      rw [one] at hz1 hz0
      refine b4_0 hG TM_eqo (hM.2.2.1.1.2.1) (by intros; omega) (by intros; omega) ?_ (e5) (by intros; omega) (by intros; omega) (by intros; omega) rfl (by intros; omega) rfl ?_ rfl ?_ (e6) ?_ ?_
      · intro p; omega
      · intro p p2 p3; exact absurd hos p3
      · intro p p2 p3; exact absurd hos p3
      · intro p p2 p3
        obtain ⟨h1, ⟨h2, h3, h3'⟩, h4, h5⟩ := hDf
        have ec : ∀ j, 0 ≤ j → j < (twN S o).1 → sgW S (q_u1 way (twN S o).1 (dgy S s k)) j = sgW S way j := sg_c (fun j _ q2 => u1_n (by omega))
        have es : sgW S (q_u1 way (twN S o).1 (dgy S s k)) (twN S o).1 = k := by unfold sgW; rw [u1_e, w2, hos]; exact dk
        refine b268_0 hG TM_eqo (by intros; omega) (by intros; omega) ?_
        refine ih (D + 1) (o + 1) b (q_u1 way (twN S o).1 (dgy S s k)) _ _ (by omega) (by omega) (by omega) (MsL_fr hM (fun r hr => by rw [up_r (by omega)])) (by rw [up_n (by omega)]; exact e5) (by rw [up_n (by omega)]; exact e6) ?_ ?_ ?_
        · rw [up_r (by omega), w3]
          refine ⟨fun x x1 x2 => ?_, ⟨?_, h3, h3'⟩, fun j j1 j2 => ?_, Box_s h5 db⟩
          · have e := h1 x x1 x2
            rw [cnt_s tb.1, cnt_c (x := x) ec, es, if_neg (show ¬ (o + 1 ≤ s ∧ x = k) from fun z => by omega)]
            by_cases hx : x = k
            · rw [if_pos ⟨by omega, hx⟩] at e; rw [if_pos hx.symm]; omega
            · rw [if_neg (fun z => hx z.2)] at e; rw [if_neg (fun z => hx z.symm)]; omega
          · rw [chw_s tb.1, u1_e, chW_c (m := (twN S o).1) (way := way) (fun j _ q2 => u1_n (by omega)), if_pos dp, if_neg (show ¬ o + 1 ≤ s by omega), h2, if_pos (show o ≤ s by omega)]; omega
          · by_cases hj : j = (twN S o).1
            · rw [hj, es]
              refine ⟨?_, fun _ => rfl⟩
              unfold alT; rw [w2, hos]; exact hka
            · rw [ec j j1 (by omega)]; exact h4 j j1 (by omega)
        · intro c' w hw hY
          refine b268_15 hG (by intros; omega) ?_
          show T (D + 1 + 1 + 1) 4 37 _ [aI 1] _ _
          refine b4_37 hG (by intros; omega) ?_
          obtain ⟨y1, y2, y3, y4, y5⟩ := hY
          refine hz1 c' w hw ⟨fun q q1 q2 => by rw [y1 q q1 q2, up_r q2], fun x x1 x2 => by rw [y2 x x1 x2, up_n (by omega)], fun q q1 => by rw [y3 q (by omega), up_n (by omega)], fun j j1 j2 => ?_, fun q q1 q2 q3 => ?_⟩
          · by_cases hj : j = (twN S o).1
            · have wi := fst_pre _ _ _ _ hw (by omega) (twN S o).1 tb.1 (by omega)
              rw [u1_e] at wi
              rw [hj, w2, y3 o (by omega), up_e]
              unfold sgW
              rw [wi, w2, hos]; exact dk.symm
            · exact y4 j (by omega) j2
          · by_cases hq : q = o
            · rw [hq, hos] at q3; exact absurd q3 hsz
            · exact y5 q (by omega) q2 q3
        · intro c' hw hN
          refine b268_15 hG (by intros; omega) ?_
          show T (D + 1 + 1 + 1) 4 37 _ [aI 0] _ _
          refine b4_37 hG (by intros; omega) ?_
          obtain ⟨y1, y2, y3⟩ := hN
          exact hz0 c' hw ⟨fun q q1 q2 => by rw [y1 q q1 q2, up_r q2], fun x x1 x2 => by rw [y2 x x1 x2, up_n (by omega)], fun q q1 => by rw [y3 q (by omega), up_n (by omega)]⟩
      · intro p p2; omega
    · by_cases htd : S (197 + o) = 0
      · -- not of today
        have ew := tw_s (S := S) h0
        rw [if_pos htd] at ew
        refine b4_0 hG TM_eqo (hM.2.2.1.1.2.1) (by intros; omega) (by intros; omega) ?_ (e5) (by intros; omega) (by intros; omega) (by intros; omega) (lv.2.2.2) (by intros; omega) rfl ?_ (lv.1) ?_ rfl ?_ ?_
        · intro p; omega
        · intro p p2 p3 p4; exact absurd htd p4
        · intro p p2 p3 p4
          refine b268_0 hG TM_eqo (by intros; omega) (by intros; omega) ?_
          refine ih (D + 1) (o + 1) b way _ _ (by omega) (by omega) (by omega) (MsL_fr hM (fun r hr => by rw [up_r (by omega)])) (by rw [up_n (by omega)]; exact e5) (by rw [up_n (by omega)]; exact e6) ?_ ?_ ?_
          · rw [up_r (by omega), ew]
            obtain ⟨h1, ⟨h2, h3, h3'⟩, h4, h5⟩ := hDf
            refine ⟨fun x x1 x2 => ?_, ⟨?_, h3, h3'⟩, h4, h5⟩
            · have e := h1 x x1 x2
              by_cases hh : o ≤ s ∧ x = k
              · rw [if_pos hh] at e; rw [if_pos (show o + 1 ≤ s ∧ x = k from ⟨by omega, hh.2⟩)]; exact e
              · rw [if_neg hh] at e; rw [if_neg (show ¬ (o + 1 ≤ s ∧ x = k) from fun z => hh ⟨by omega, z.2⟩)]; exact e
            · by_cases hh : o ≤ s
              · rw [if_pos hh] at h2; rw [if_pos (show o + 1 ≤ s by omega)]; exact h2
              · rw [if_neg hh] at h2; rw [if_neg (show ¬ o + 1 ≤ s by omega)]; exact h2
          · intro c' w hw hY
            rw [ew] at hw hY
            refine b268_15 hG (by intros; omega) ?_
            show T (D + 1 + 1 + 1) 4 65 _ [aI 1] _ _
            refine b4_65 hG (by intros; omega) ?_
            obtain ⟨y1, y2, y3, y4, y5⟩ := hY
            refine hz1 c' w hw ⟨fun q q1 q2 => by rw [y1 q q1 q2, up_r q2], fun x x1 x2 => by rw [y2 x x1 x2, up_n (by omega)], fun q q1 => by rw [y3 q (by omega), up_n (by omega)], y4, fun q q1 q2 q3 => ?_⟩
            by_cases hq : q = o
            · rw [hq, y3 o (by omega), up_e]
            · exact y5 q (by omega) q2 q3
          · intro c' hw hN
            rw [ew] at hw
            refine b268_15 hG (by intros; omega) ?_
            show T (D + 1 + 1 + 1) 4 65 _ [aI 0] _ _
            refine b4_65 hG (by intros; omega) ?_
            obtain ⟨y1, y2, y3⟩ := hN
            exact hz0 c' hw ⟨fun q q1 q2 => by rw [y1 q q1 q2, up_r q2], fun x x1 x2 => by rw [y2 x x1 x2, up_n (by omega)], fun q q1 => by rw [y3 q (by omega), up_n (by omega)]⟩
        · intro p p2 p3; exact absurd p3 hos
        · intro p p2; omega
      · -- one of today: each sort
        obtain ⟨w1, w2, w3⟩ := wT_at h0 ho1 htd
        have cb := cuT_b hR hI tb.1 w1
        have ecu : cuT S (twN S o).1 = S (173 + o) - 1 := by unfold cuT; rw [w2]
        rw [ecu] at cb
        obtain ⟨i, hi⟩ : ∃ i, i = (twN S o).1 := ⟨_, rfl⟩
        rw [← hi] at w1 w2 w3 tb tp hDf hz1 hz0
        have hdn : (mT S - i).toNat = (mT S - (i + 1)).toNat + 1 := by omega
        have esu : fstW S s k fb (mT S - i).toNat i way = loopI (fun a o => orO o ((fun a => fstW S s k fb (mT S - (i + 1)).toNat (i + 1) (q_u1 way i a)) a)) (S 0) none := by rw [hdn]; rfl
        have hb5 := hDf.2.2.2
        have hjs : o ≤ s → i + 1 ≤ js := fun hle => by
          by_cases hh : i + 1 ≤ js
          · exact hh
          · exfalso
            have : wT S js < o + 1 := wT_lt (S := S) (o := o + 1) (by omega) (by omega) js1 (by rw [w3]; omega)
            omega
        have tr : ∀ (a : Int) (c2 : CC) (Q2 : Option AV → HH → Prop), 0 ≤ a → a < S 0 → alT S i (kby S o a) → 0 ≤ b - (if 0 < a then 1 else 0) → DfN S o c c2 → (∀ c' w, fstW S s k fb (mT S - (i + 1)).toNat (i + 1) (q_u1 way i a) = some w → DfY S o i w c c' → Q2 (some (aI 1)) (G, c')) → (∀ c', fstW S s k fb (mT S - (i + 1)).toNat (i + 1) (q_u1 way i a) = none → DfN S o c c' → Q2 (some (aI 0)) (G, c')) → TM (D + 1 + 1) 5 [aR 132, aI o, aI (kby S o a), aI (b - (if 0 < a then 1 else 0))] (G, c2) Q2 := by
          intro a c2 Q2 a1 a2 hal hbb hN2 t1 t2
          obtain ⟨n1, n2, n3⟩ := hN2
          have kb : 0 ≤ kby S o a ∧ kby S o a < S 0 := by
            unfold kby
            by_cases z1 : a = 0
            · rw [if_pos z1]; omega
            · rw [if_neg z1]; split <;> omega
          have ro := hDf.1 (kby S o a) kb.1 kb.2
          have pl := hR.2.1 (kby S o a) kb.1 kb.2
          have cn0 : 0 ≤ cntI (sgW S way) i (kby S o a) := sumI_ge0 (fun j _ _ => by show (0 : Int) ≤ if _ then 1 else 0; split <;> omega)
          have rb : c 133 (kby S o a) ≤ 9 := by
            have := ro.1; have : (0 : Int) ≤ (if o ≤ s ∧ kby S o a = k then 1 else 0) := by split <;> omega
            omega
          have e133 := n2 (kby S o a) kb.1 kb.2
          refine b5_0 hG TM_eqo (by intros; omega) ?_ (by intros; omega) (by intros; omega) (e133) (by intros; omega) (e133) ?_ ?_
          · intro p; omega
          · intro p p2
            refine b268_0 hG TM_eqo (by intros; omega) (by intros; omega) ?_
            refine ih D (o + 1) (b - (if 0 < a then 1 else 0)) (q_u1 way i a) _ _ (by omega) (by omega) (by omega) (MsL_fr hM (fun r hr => by rw [up_r (by omega), up_r (by omega), n1 r (by omega) (by omega)])) (by rw [up_n (by omega), up_n (by omega), n1 132 (by omega) (by omega)]; exact e5) (by rw [up_n (by omega), up_n (by omega), n1 132 (by omega) (by omega)]; exact e6) ?_ ?_ ?_
            · rw [w3]
              have ds := Df_s hR hDf tb.1 w2 ⟨a1, a2⟩ hal hos hbb p2
              refine ⟨fun x x1 x2 => ?_, ds.2⟩
              have := ds.1 x x1 x2
              by_cases hx : x = kby S o a
              · rw [hx, up_n (by omega), up_e]; rw [hx, u1_e] at this; exact this
              · rw [up_n (by omega), up_n (by omega), n2 x x1 x2]; rw [u1_n hx] at this; exact this
            · intro c' w hw hY
              rw [w3] at hw hY
              obtain ⟨y1, y2, y3, y4, y5⟩ := hY
              have ey : c' 133 (kby S o a) = c 133 (kby S o a) - 1 := by rw [y2 _ kb.1 kb.2, up_n (by omega), up_e]
              refine b268_15 hG (by intros; omega) ?_
              show T (D + 1 + 1) 5 34 _ [aI 1] _ _
              refine b5_34 hG (by intros; omega) (by intros; omega) (ey) (by intros; omega) ?_
              refine t1 _ w hw ⟨fun q q1 q2 => by rw [up_r q1, y1 q q1 q2, up_r q2, up_r q1]; exact n1 q q1 q2, fun x x1 x2 => ?_, fun q q1 => by rw [up_n (by omega), y3 q (by omega), up_n (by omega), up_n (by omega)]; exact n3 q q1, fun j j1 j2 => ?_, fun q q1 q2 q3 => ?_⟩
              · by_cases hx : x = kby S o a
                · rw [hx, up_e]; omega
                · rw [up_n (by omega), y2 x x1 x2, up_n (by omega), up_n (by omega)]; exact n2 x x1 x2
              · rw [up_n (by omega)]
                by_cases hj : j = i
                · have wi := fst_pre _ _ _ _ hw (by omega) i tb.1 (by omega)
                  rw [u1_e] at wi
                  rw [hj, w2, y3 o (by omega), up_e]
                  unfold sgW
                  rw [wi, w2]
                · exact y4 j (by omega) j2
              · rw [up_n (by omega)]
                by_cases hq : q = o
                · rw [hq] at q3; exact absurd q3 htd
                · exact y5 q (by omega) q2 q3
            · intro c' hw hN
              rw [w3] at hw
              obtain ⟨y1, y2, y3⟩ := hN
              have ey : c' 133 (kby S o a) = c 133 (kby S o a) - 1 := by rw [y2 _ kb.1 kb.2, up_n (by omega), up_e]
              refine b268_15 hG (by intros; omega) ?_
              show T (D + 1 + 1) 5 34 _ [aI 0] _ _
              refine b5_34 hG (by intros; omega) (by intros; omega) (ey) (by intros; omega) ?_
              refine t2 _ hw ⟨fun q q1 q2 => by rw [up_r q1, y1 q q1 q2, up_r q2, up_r q1]; exact n1 q q1 q2, fun x x1 x2 => ?_, fun q q1 => by rw [up_n (by omega), y3 q (by omega), up_n (by omega), up_n (by omega)]; exact n3 q q1⟩
              by_cases hx : x = kby S o a
              · rw [hx, up_e]; omega
              · rw [up_n (by omega), y2 x x1 x2, up_n (by omega), up_n (by omega)]; exact n2 x x1 x2
          · intro p p2
            refine t2 c2 ?_ ⟨n1, n2, n3⟩
            refine fst_none hR (by omega) (by omega) (Box_s hb5 ⟨a1, a2⟩) (fun w q1 q2 q3 q4 => ?_)
            have q5 := q2.2 (kby S o a) kb.1 kb.2
            have ei2 : sgW S w i = kby S o a := by
              unfold sgW
              rw [q4 i tb.1 (by omega), u1_e, w2]
            have c1 := cnt_s (f := sgW S w) (x := kby S o a) tb.1
            rw [if_pos ei2, cnt_c (m := i) (x := kby S o a) (sg_c (i := i) (w := w) (way := way) (fun j j1 j2 => by rw [q4 j j1 (by omega), u1_n (by omega)]))] at c1
            by_cases hh : o ≤ s ∧ kby S o a = k
            · rw [if_pos hh] at ro
              have c2' := cnt_ge (f := sgW S w) (x := kby S o a) (i := i + 1) (js := js) (m := mT S) (by omega) (hjs hh.1) js2 (by rw [(q2.1 js js1 js2).2 ejs]; exact hh.2.symm)
              omega
            · rw [if_neg hh] at ro
              have c2' := cnt_mono (f := sgW S w) (x := kby S o a) (i := i + 1) (N := mT S) (by omega) (mT S) (by omega) (Int.le_refl _)
              omega
        have lp : ∀ v3, 0 ≤ v3 → v3 ≤ S 0 → ∀ c3 : CC, DfN S o c c3 → loopI (fun a o => orO o ((fun a => fstW S s k fb (mT S - (i + 1)).toNat (i + 1) (q_u1 way i a)) a)) (if v3 ≤ S (173 + o) - 1 then v3 + 1 else v3) none = none → T (D + 1 + 1 + 1) 4 88 [some (aR 132), some (aI o), some (aI b), some (aI v3)] [] (G, c3) (QM Q) := by
          refine int_ind ?_ ?_
          · intro c3 hN3 hlo
            have h3 : MsL c3 S := MsL_fr hM (fun r hr => hN3.1 r (by omega) (by omega))
            rw [if_neg (by omega)] at hlo
            refine b4_88 hG (h3.2.2.1.1.1) (by omega) (by omega) ?_ (by intros; exfalso; omega) ?_ (by intros; exfalso; omega) (by intros; exfalso; omega) rfl (by intros; exfalso; omega) ?_ ?_
            · intro p; exact hz0 c3 (by rw [esu]; exact hlo) hN3
            all_goals (intro p; omega)
          · intro v3 v1 v2 ih2 c3 hN3 hlo
            have h3 : MsL c3 S := MsL_fr hM (fun r hr => hN3.1 r (by omega) (by omega))
            have lv3 := (h3.2.2.2.1.2.1 o h0 (by omega)).1
            have hb3 := hDf.2.1
            refine b4_88 hG (h3.2.2.1.1.1) (by intros; omega) (by intros; omega) ?_ (by intros; omega) ?_ (by intros; omega) (by intros; omega) (lv3) (by intros; omega) ?_ ?_
            · intro p; omega
            · intro p p2
              refine hz0 c3 ?_ hN3
              rw [esu]
              refine lp_none (a0 := if v3 ≤ S (173 + o) - 1 then v3 + 1 else v3) (by split <;> omega) hlo (fun a q1 q2 => ?_) (S 0) (by split <;> omega) (Int.le_refl _)
              have a1 : 1 ≤ a := by
                by_cases z : v3 ≤ S (173 + o) - 1
                · rw [if_pos z] at q1; omega
                · rw [if_neg z] at q1; omega
              refine fst_none hR (by omega) (by omega) (Box_s hb5 ⟨by omega, q2⟩) (fun w r1 r2 r3 r4 => ?_)
              have c1 := chw_s (way := w) tb.1
              have r5 := r4 i tb.1 (by omega)
              rw [u1_e] at r5
              rw [if_pos (by omega), chW_c (m := i) (way := way) (fun j j1 j2 => by rw [r4 j j1 (by omega), u1_n (by omega)])] at c1
              by_cases hh : o ≤ s
              · rw [if_pos hh] at hb3
                have wjs : 0 < w js := (sgW_b hR hI r1 js1 js2).2.mpr (by rw [(r2.1 js js1 js2).2 ejs, ecs]; exact fun z => hne z.symm)
                have := chw_ge (way := w) (i := i + 1) (js := js) (m := mT S) (by omega) (hjs hh) js2 wjs
                omega
              · rw [if_neg hh] at hb3
                have := chw_mono (way := w) (i := i + 1) (N := mT S) (by omega) (mT S) (by omega) (Int.le_refl _)
                omega
            · intro p p2 p3
              refine ih2 c3 hN3 ?_
              rw [if_pos (by omega)] at hlo
              rw [if_neg (by omega)]
              exact hlo
            · intro p p2 p3
              have ea : kby S o (if v3 ≤ S (173 + o) - 1 then v3 + 1 else v3) = v3 := by
                unfold kby
                by_cases z : v3 ≤ S (173 + o) - 1
                · rw [if_pos z, if_neg (by omega), if_neg (by omega)]; omega
                · rw [if_neg z, if_neg (by omega), if_pos (by omega)]
              have ab : 1 ≤ (if v3 ≤ S (173 + o) - 1 then v3 + 1 else v3) ∧ (if v3 ≤ S (173 + o) - 1 then v3 + 1 else v3) < S 0 := by
                by_cases z : v3 ≤ S (173 + o) - 1
                · rw [if_pos z]; omega
                · rw [if_neg z]; omega
              have an : (if v3 + 1 ≤ S (173 + o) - 1 then v3 + 1 + 1 else v3 + 1) = (if v3 ≤ S (173 + o) - 1 then v3 + 1 else v3) + 1 := by
                by_cases z : v3 ≤ S (173 + o) - 1
                · rw [if_pos z, if_pos (by omega)]
                · rw [if_neg z, if_neg (by omega)]
              obtain ⟨a, hea⟩ : ∃ a, a = (if v3 ≤ S (173 + o) - 1 then v3 + 1 else v3) := ⟨_, rfl⟩
              rw [← hea] at hlo ea ab an
              have nxt : ∀ c4, DfN S o c c4 → fstW S s k fb (mT S - (i + 1)).toNat (i + 1) (q_u1 way i a) = none → T (D + 1 + 1 + 1) 4 88 [some (aR 132), some (aI o), some (aI b), some (aI (v3 + 1))] [] (G, c4) (QM Q) := fun c4 hN4 hno => by
                refine ih2 c4 hN4 ?_
                rw [an]
                rw [loopI_s (by omega), hlo]
                exact hno
              refine c_mayBe hG h3.2.2.1 h0 ho1 (by omega) ?_
              have hbt : bt (S (51 + o)) v3 = 0 ∨ bt (S (51 + o)) v3 = 1 := bt_01
              refine b4_125 hG (by intros; omega) ?_ ?_
              · intro p4
                refine nxt c3 hN3 (fst_none hR (by omega) (by omega) (Box_s hb5 ⟨by omega, ab.2⟩) (fun w r1 r2 r3 r4 => ?_))
                have r5 := (r2.1 i tb.1 w1).1
                have ei2 : sgW S w i = v3 := by
                  unfold sgW
                  rw [r4 i tb.1 (by omega), u1_e, w2]; exact ea
                rw [ei2] at r5
                unfold alT at r5
                rw [w2] at r5
                omega
              · intro p4
                have hal : alT S i (kby S o a) := by unfold alT; rw [w2, ea]; omega
                have := tr a c3 (fun r h' => T (D + 1 + 1 + 1) 4 137 [some (aR 132), some (aI o), some (aI b), some (aI v3)] (r.toList ++ []) h' (QM Q)) (by omega) ab.2 hal (by rw [if_pos (by omega)]; omega) hN3 ?_ ?_
                · rw [ea, if_pos (by omega)] at this
                  exact this
                · intro c' w hw hY
                  refine b4_137 hG (by intros; omega) ?_ ?_
                  · intro q; omega
                  · intro q
                    refine hz1 c' w ?_ hY
                    rw [esu]
                    exact lp_some (by omega) ab.2 hlo hw
                · intro c' hw hN
                  refine b4_137 hG (by intros; omega) ?_ ?_
                  · intro q; exact nxt c' hN hw
                  · intro q; omega
        refine b4_0 hG TM_eqo (hM.2.2.1.1.2.1) (by intros; omega) (by intros; omega) ?_ (e5) (by intros; omega) (by intros; omega) (by intros; omega) (lv.2.2.2) (by intros; omega) (lv.1) ?_ rfl ?_ rfl ?_ ?_
        · intro p; omega
        · intro p p2 p3 p4
          have ek0 : kby S o 0 = S (173 + o) - 1 := by unfold kby; rw [if_pos rfl]
          have hN1 : DfN S o c c := ⟨fun q q1 q2 => rfl, fun x x1 x2 => rfl, fun q q1 => rfl⟩
          have := tr 0 c (fun r h' => T (D + 1 + 1 + 1) 4 81 [some (aR 132), some (aI o), some (aI b), none] (r.toList ++ []) h' (QM Q)) (by omega) (by omega) (by rw [ek0]; unfold alT; rw [w2]; exact hI.2.1 o h0 (by omega) (by omega)) (by rw [if_neg (by omega)]; have := hDf.2.1; omega) hN1 ?_ ?_
          · rw [ek0, if_neg (by omega), show b - 0 = b by omega] at this
            exact this
          · intro c' w hw hY
            refine b4_81 hG (by intros; omega) ?_ ?_
            · intro q; omega
            · intro q
              refine hz1 c' w ?_ hY
              rw [esu]
              exact lp_some (g := fun a => fstW S s k fb (mT S - (i + 1)).toNat (i + 1) (q_u1 way i a)) (a0 := 0) (by omega) (by omega) (loopI_0 (by omega)) hw
          · intro c' hw hN
            refine b4_81 hG (by intros; omega) ?_ ?_
            · intro q
              refine lp 0 (by omega) g.1 c' hN ?_
              rw [if_pos (by omega), loopI_s (by omega), loopI_0 (by omega)]
              exact hw
            · intro q; omega
        · intro p p2 p3 p4; exact absurd p4 htd
        · intro p p2 p3; exact absurd p3 hos
        · intro p p2; omega
end SPag
