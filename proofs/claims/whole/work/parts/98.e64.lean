section SPad
variable {d : Nat} {G : GG} {c c' c0 : CC} {Q : Option AV → HH → Prop} {S : SS} {m K k js v t x y j j0 i N s o b n : Int} {L : Int → Int}
theorem LvC_up {M : Int → Int} (hv : 1 ≤ v) (hL : LvC (alT S) (cuT S) L (mT S) (S 0) js k v) (hkb : 0 ≤ k ∧ k < S 0) (hc : ∀ j, 0 ≤ j → j < mT S → 0 ≤ cuT S j ∧ cuT S j < S 0) (h1 : ∀ x, 0 ≤ x → x < S 0 → (¬ L x = 0 → M x = L x) ∧ (L x = 0 → M x = 0 ∨ (M x = v + 1 ∧ ∃ j, 0 ≤ j ∧ j < mT S ∧ ¬ j = js ∧ L (cuT S j) = v ∧ alT S j x))) (h2 : ∀ j, 0 ≤ j → j < mT S → ¬ j = js → L (cuT S j) = v → ∀ y, 0 ≤ y → y < S 0 → alT S j y → ¬ M y = 0) : LvC (alT S) (cuT S) M (mT S) (S 0) js k (v + 1) := by
  obtain ⟨l1, l2, l3, l4, l5⟩ := hL
  have bd : ∀ x, 0 ≤ x → x < S 0 → 0 ≤ M x ∧ M x ≤ v + 1 := fun x x1 x2 => by
    have a := h1 x x1 x2
    have b := l1 x x1 x2
    by_cases hz : L x = 0
    · rcases a.2 hz with e | e
      · omega
      · have := e.1; omega
    · have := a.1 hz; omega
  refine ⟨bd, ?_, fun x x1 x2 hx => ?_, fun x x1 x2 hx => ?_, fun j j1 j2 j3 q1 q2 y y1 y2 hal => ?_⟩
  · rw [(h1 k hkb.1 hkb.2).1 (by omega)]; exact l2
  · have a := h1 x x1 x2
    by_cases hz : L x = 0
    · rcases a.2 hz with e | e
      · omega
      · have := e.1; omega
    · exact l3 x x1 x2 (by have := a.1 hz; omega)
  · have a := h1 x x1 x2
    by_cases hz : L x = 0
    · rcases a.2 hz with e | e
      · omega
      · obtain ⟨e1, j, p1, p2, p3, p4, p5⟩ := e
        have cj := hc j p1 p2
        exact ⟨j, p1, p2, p3, by rw [(h1 (cuT S j) cj.1 cj.2).1 (by omega)]; omega, p5⟩
    · have e := a.1 hz
      obtain ⟨j, p1, p2, p3, p4, p5⟩ := l4 x x1 x2 (by omega)
      have cj := hc j p1 p2
      exact ⟨j, p1, p2, p3, by rw [(h1 (cuT S j) cj.1 cj.2).1 (by omega)]; omega, p5⟩
  · have cj := hc j j1 j2
    have a := h1 (cuT S j) cj.1 cj.2
    have hz : ¬ L (cuT S j) = 0 := fun hz => by
      rcases a.2 hz with e | e
      · omega
      · have := e.1; omega
    have e := a.1 hz
    by_cases hv2 : L (cuT S j) = v
    · have n0 := h2 j j1 j2 j3 hv2 y y1 y2 hal
      have := bd y y1 y2
      omega
    · have b := l5 j j1 j2 j3 (by omega) (by omega) y y1 y2 hal
      have := (h1 y y1 y2).1 (by omega)
      omega
theorem c_spread (hG : Shp G) (h : MsL c S) (hv : 1 ≤ v ∧ v ≤ 6) (hs : 0 ≤ s ∧ s < S 1) (hj : 0 ≤ js ∧ js < mT S) (ejs : wT S js = s) (hkb : 0 ≤ k ∧ k < S 0) (hL : LvC (alT S) (cuT S) (c 134) (mT S) (S 0) js k v) (hz : ∀ c', (∀ q, ¬ q = 134 → c' q = c q) → (∀ x, 0 ≤ x → x < S 0 → ¬ c 134 x = 0 → c' 134 x = c 134 x) → LvC (alT S) (cuT S) (c' 134) (mT S) (S 0) js k (v + 1) → (∀ x, 0 ≤ x → x < S 0 → c 134 x = 0 → c' 134 x = 0 ∨ c' 134 x = v + 1) → Q none (G, c')) : TM (d + 1) 2 [aR 132, aI s, aI v] (G, c) Q := by
  have hR := h.1
  have hI := h.2.1
  have g := hR.1
  have cb : ∀ j, 0 ≤ j → j < mT S → 0 ≤ cuT S j ∧ cuT S j < S 0 := fun j h1 h2 => cuT_b hR hI h1 h2
  have key : ∀ o, 0 ≤ o → o ≤ S 1 → ∀ c2 : CC, (∀ q, ¬ q = 134 → c2 q = c q) → (∀ x, 0 ≤ x → x < S 0 → (¬ c 134 x = 0 → c2 134 x = c 134 x) ∧ (c 134 x = 0 → c2 134 x = 0 ∨ (c2 134 x = v + 1 ∧ ∃ j, 0 ≤ j ∧ j < mT S ∧ ¬ j = js ∧ c 134 (cuT S j) = v ∧ alT S j x))) → (∀ j, 0 ≤ j → j < mT S → ¬ j = js → wT S j < o → c 134 (cuT S j) = v → ∀ y, 0 ≤ y → y < S 0 → alT S j y → ¬ c2 134 y = 0) → T (d + 1) 2 2 [some (aR 132), some (aI s), some (aI v), some (aI o), none, none] [] (G, c2) (QM Q) := by
    refine int_ind ?_ ?_
    · intro c2 f1 f2 f3
      have h2 : MsL c2 S := MsL_fr h (fun r hr => f1 r (by omega))
      refine b2_2 hG TM_eqo (h2.2.2.1.1.2.1) (by omega) (by omega) ?_ (by intros; exfalso; omega) (by intros; exfalso; omega) rfl (by intros; exfalso; omega) ?_ rfl (by intros; exfalso; omega) ?_ (by intros; exfalso; omega) ?_ (by intros; exfalso; omega) (by intros; exfalso; omega) rfl (by intros; exfalso; omega) (by intros; exfalso; omega) ?_ ?_
      · intro p
        refine hz c2 f1 (fun x x1 x2 hx => (f2 x x1 x2).1 hx) (LvC_up hv.1 hL hkb cb f2 (fun j j1 j2 j3 j4 => f3 j j1 j2 j3 (wT_b hR hI j1 j2).1.2 j4)) (fun x x1 x2 hx => ?_)
        rcases (f2 x x1 x2).2 hx with e | e
        · exact Or.inl e
        · exact Or.inr e.1
      all_goals (intro p; omega)
    · intro o p1 p2 ih c2 f1 f2 f3
      have h2 : MsL c2 S := MsL_fr h (fun r hr => f1 r (by omega))
      have lv := h2.2.2.2.1.2.1 o p1 (by omega)
      have io := hI.1 o p1 (by omega)
      have skip : (∀ j, 0 ≤ j → j < mT S → ¬ j = js → wT S j = o → ¬ c 134 (cuT S j) = v) → T (d + 1) 2 2 [some (aR 132), some (aI s), some (aI v), some (aI (o + 1)), none, none] [] (G, c2) (QM Q) := fun hn => ih c2 f1 f2 (fun j j1 j2 j3 j4 j5 => by
        by_cases ho : wT S j = o
        · exact absurd j5 (hn j j1 j2 j3 ho)
        · exact f3 j j1 j2 j3 (by omega) j5)
      have lvM : ∀ x, 0 ≤ x → x < S 0 → -1 ≤ c2 134 x ∧ c2 134 x ≤ 7 := fun x x1 x2 => by
        have a := f2 x x1 x2
        have b := hL.1 x x1 x2
        by_cases hz : c 134 x = 0
        · rcases a.2 hz with e | e
          · omega
          · have := e.1; omega
        · have := a.1 hz; omega
      have hcur : S (197 + o) = 1 → 0 ≤ S (173 + o) - 1 ∧ S (173 + o) - 1 < S 0 := fun z => by
        have := io.2.2.2.2.2.2.2.2.1 z; omega
      refine b2_2 hG TM_eqo (h2.2.2.1.1.2.1) (by intros; omega) (by intros; omega) ?_ (by intros; omega) (by intros; omega) (lv.1) (by intros; omega) ?_ (lv.2.2.2) (by intros; omega) ?_ (by intros; omega) ?_ (by intros; omega) (by intros; omega) rfl (by intros; have := lvM (S (173 + o) - 1) (by omega) (by omega); omega) (by intros; omega) ?_ ?_
      · intro p; omega
      · intro p p3
        refine skip (fun j j1 j2 j3 j4 _ => j3 (wT_inj hR j1 j2 hj.1 hj.2 (by omega)))
      · intro p p3 p4
        refine skip (fun j j1 j2 j3 j4 _ => ?_)
        have := (wT_b hR hI j1 j2).2.1
        rw [j4] at this; exact p4 this
      · intro p p3 p4 p5
        have := hcur p4; omega
      · intro p p3 p4 p5 p6
        refine skip (fun j j1 j2 j3 j4 j5 => p6 ?_)
        have e : cuT S j = S (173 + o) - 1 := by unfold cuT; rw [j4]
        rw [e] at j5
        have hc := hcur p4
        rw [(f2 _ hc.1 hc.2).1 (by omega)]; exact j5
      · intro p p3 p4 p5 p6
        obtain ⟨jo, q1, q2, q3⟩ := wT_all hR p1 p2 (by omega)
        have hjo : ¬ jo = js := fun z => p3 (by rw [← q3, z]; exact ejs)
        have ec : cuT S jo = S (173 + o) - 1 := by unfold cuT; rw [q3]
        have hc := hcur p4
        have eL : c 134 (cuT S jo) = v := by
          rw [ec]
          have a := f2 _ hc.1 hc.2
          by_cases hz : c 134 (S (173 + o) - 1) = 0
          · rcases a.2 hz with e | e
            · omega
            · have := e.1; omega
          · rw [← a.1 hz]; exact p6
        have inner : ∀ y, 0 ≤ y → y ≤ S 0 → ∀ c3 : CC, (∀ q, ¬ q = 134 → c3 q = c q) → (∀ x, 0 ≤ x → x < S 0 → (¬ c 134 x = 0 → c3 134 x = c 134 x) ∧ (c 134 x = 0 → c3 134 x = 0 ∨ (c3 134 x = v + 1 ∧ ∃ j, 0 ≤ j ∧ j < mT S ∧ ¬ j = js ∧ c 134 (cuT S j) = v ∧ alT S j x))) → (∀ x, 0 ≤ x → x < S 0 → ¬ c2 134 x = 0 → ¬ c3 134 x = 0) → (∀ x, 0 ≤ x → x < y → alT S jo x → ¬ c3 134 x = 0) → T (d + 1) 2 62 [some (aR 132), some (aI s), some (aI v), some (aI o), none, some (aI y)] [] (G, c3) (QM Q) := by
          refine int_ind ?_ ?_
          · intro c3 k1 k2 k3 k4
            have h3 : MsL c3 S := MsL_fr h (fun r hr => k1 r (by omega))
            refine b2_62 hG TM_eqo (h3.2.2.1.1.1) (by omega) (by omega) ?_ (by intros; exfalso; omega) (by intros; exfalso; omega) rfl (by intros; exfalso; omega) ?_ ?_
            · intro p7
              refine ih c3 k1 k2 (fun j j1 j2 j3 j4 j5 y y1 y2 hal => ?_)
              by_cases ho : wT S j = o
              · have : j = jo := wT_inj hR j1 j2 q1 q2 (by rw [ho, q3])
                rw [this] at hal
                exact k4 y y1 y2 hal
              · exact k3 y y1 y2 (f3 j j1 j2 j3 (by omega) j5 y y1 y2 hal)
            · intro p7; omega
            · intro p7; omega
          · intro y y1 y2 ih2 c3 k1 k2 k3 k4
            have h3 : MsL c3 S := MsL_fr h (fun r hr => k1 r (by omega))
            have b3 : -1 ≤ c3 134 y ∧ c3 134 y ≤ 7 := by
              have a := k2 y y1 y2
              have b := hL.1 y y1 y2
              by_cases hz : c 134 y = 0
              · rcases a.2 hz with e | e
                · omega
                · have := e.1; omega
              · have := a.1 hz; omega
            refine b2_62 hG TM_eqo (h3.2.2.1.1.1) (by intros; omega) (by intros; omega) ?_ (by intros; omega) (by intros; omega) rfl (by intros; omega) ?_ ?_
            · intro p7; omega
            · intro p7 p8
              refine ih2 c3 k1 k2 k3 (fun x x1 x2 hal => ?_)
              by_cases hx : x = y
              · rw [hx]; exact p8
              · exact k4 x x1 (by omega) hal
            · intro p7 p8
              refine c_mayBe hG h3.2.2.1 p1 p2 (by omega) ?_
              have hb : bt (S (51 + o)) y = 0 ∨ bt (S (51 + o)) y = 1 := bt_01
              refine b2_94 hG (by intros; omega) ?_ (by intros; omega) (by intros; omega) ?_
              · intro p9
                refine ih2 c3 k1 k2 k3 (fun x x1 x2 hal => ?_)
                by_cases hx : x = y
                · rw [hx] at hal; unfold alT at hal; rw [q3] at hal; omega
                · exact k4 x x1 (by omega) hal
              · intro p9
                have hal : alT S jo y := by unfold alT; rw [q3]; omega
                have cz : c 134 y = 0 := by
                  by_cases hz : c 134 y = 0
                  · exact hz
                  · have := (k2 y y1 y2).1 hz; omega
                refine ih2 _ (fun q hq => by rw [up_r hq]; exact k1 q hq) (fun x x1 x2 => ?_) (fun x x1 x2 hx => ?_) (fun x x1 x2 hx => ?_)
                · by_cases hx : x = y
                  · rw [hx, up_e]
                    exact ⟨fun z => absurd cz z, fun _ => Or.inr ⟨rfl, jo, q1, q2, hjo, eL, hal⟩⟩
                  · rw [up_n (by omega)]; exact k2 x x1 x2
                · by_cases hxy : x = y
                  · rw [hxy, up_e]; omega
                  · rw [up_n (by omega)]; exact k3 x x1 x2 hx
                · by_cases hxy : x = y
                  · rw [hxy, up_e]; omega
                  · rw [up_n (by omega)]; exact k4 x x1 (by omega) hx
        exact inner 0 (by omega) g.1 c2 f1 f2 (fun x _ _ hx => hx) (fun x x1 x2 => by omega)
  refine b2_0 hG ?_
  exact key 0 (by omega) (by omega) c (fun _ _ => rfl) (fun x _ _ => ⟨fun _ => rfl, fun hx => Or.inl hx⟩) (fun j j1 j2 _ j3 => by have := (wT_b hR hI j1 j2).1.1; omega)
def ApV (S : SS) (s k v : Int) : Prop := ((S (197 + s) = 0 ∨ bt (S (51 + s)) k = 0) → v = -1) ∧ (¬ S (197 + s) = 0 → ¬ bt (S (51 + s)) k = 0 → (v = -1 ∧ ∀ way, Box way (mT S) (S 0) → ¬ Feas S s k way) ∨ (0 ≤ v ∧ v ≤ 8 ∧ (∀ way, Box way (mT S) (S 0) → Feas S s k way → v ≤ chW way (mT S)) ∧ ∃ way, Box way (mT S) (S 0) ∧ Feas S s k way ∧ chW way (mT S) = v))
theorem c_fewest (hG : Shp G) (h : MsL c S) (hs : 0 ≤ s ∧ s < S 1) (hk : 0 ≤ k ∧ k < S 0) (hz : ∀ c' v, (∀ q, ¬ q = 133 → ¬ q = 134 → c' q = c q) → ApV S s k v → I32 v → Q (some (aI v)) (G, c')) : TM (d + 2) 1 [aR 132, aI s, aI k] (G, c) Q := by
  have hR := h.1
  have hI := h.2.1
  have g := hR.1
  have io := hI.1 s hs.1 (by omega)
  have lv := h.2.2.2.1.2.1 s hs.1 (by omega)
  have hb : bt (S (51 + s)) k = 0 ∨ bt (S (51 + s)) k = 1 := bt_01
  refine b1_0 hG (by intros; omega) (by intros; omega) (lv.2.2.2) (by intros; omega) ?_ ?_
  · intro p
    exact hz c (-1) (fun _ _ _ => rfl) ⟨fun _ => rfl, fun q => absurd p q⟩ (by omega)
  · intro p
    obtain ⟨js, j1, j2, ejs⟩ := wT_all hR hs.1 hs.2 p
    have hcur := io.2.2.2.2.2.2.2.2.1 (by omega)
    have cb : ∀ j, 0 ≤ j → j < mT S → 0 ≤ cuT S j ∧ cuT S j < S 0 := fun j h1 h2 => cuT_b hR hI h1 h2
    refine c_mayBe hG h.2.2.1 hs.1 hs.2 (by omega) ?_
    refine b1_21 hG (by intros; omega) (by intros; omega) (by intros; omega) (lv.1) (by intros; omega) (by intros; omega) ?_ ?_ ?_ ?_ ?_ ?_
    · intro p2 p3 p4; exact absurd p3 p4
    · intro p2 p3 p4
      obtain ⟨i1, i2⟩ := ap_id hR hI p3
      refine hz c 0 (fun _ _ _ => rfl) ⟨fun q => by rcases q with q | q <;> omega, fun _ _ => Or.inr ⟨by omega, by omega, fun way _ _ => (chW_b (mT_b hR).1).1, (fun _ => 0), fun j q1 q2 => ⟨Int.le_refl 0, by show (0 : Int) < S 0; omega⟩, i1, i2⟩⟩ (by omega)
    · intro p2 p3 p4
      have lev : ∀ v, 1 ≤ v → v ≤ S 0 + 1 → ∀ c2 : CC, (∀ q, ¬ q = 133 → ¬ q = 134 → c2 q = c q) → (∀ x, 0 ≤ x → x < S 0 → c2 133 x = room S x + (if x = S (173 + s) - 1 then 1 else 0)) → LvT S s k v (c2 134) js → T (d + 2) 1 126 [some (aR 132), some (aI s), none, none, some (aI v), none] [] (G, c2) (QM Q) := by
        refine int_ind ?_ ?_
        · intro c2 f1 f2 f3
          have h2 : MsL c2 S := MsL_fr h (fun r hr => f1 r (by omega) (by omega))
          refine b1_126 hG (h2.2.2.1.1.1) (by intros; omega) (by intros; omega) ?_ ?_
          · intro q
            refine hz c2 (-1) f1 ⟨fun _ => rfl, fun _ _ => Or.inl ⟨rfl, fun way hw => ap_no hR hI ⟨j1, j2⟩ ejs hk f3 hw⟩⟩ (by omega)
          · intro q; omega
        · intro v v1 v2 ih c2 f1 f2 f3
          have h2 : MsL c2 S := MsL_fr h (fun r hr => f1 r (by omega) (by omega))
          have chk : ∀ x, 0 ≤ x → x ≤ S 0 → (∀ q, 0 ≤ q → q < x → c2 134 q = v → room S q + (if q = S (173 + s) - 1 then 1 else 0) ≤ 0) → T (d + 2) 1 141 [some (aR 132), some (aI s), none, none, some (aI v), some (aI x)] [] (G, c2) (QM Q) := by
            refine int_ind ?_ ?_
            · intro hf
              refine b1_141 hG TM_eqo (h2.2.2.1.1.1) (by omega) (by omega) ?_ (by intros; exfalso; omega) (by intros; exfalso; omega) rfl (by intros; exfalso; omega) (by intros; exfalso; omega) ?_ rfl (by intros; exfalso; omega) ?_ ?_
              · intro q
                refine c_spread (js := js) (k := k) hG h2 ⟨v1, by omega⟩ hs ⟨j1, j2⟩ ejs hk f3.1 ?_
                intro c3 k1 k2 k3 k4
                refine b1_191 hG ?_
                refine ih c3 (fun q h1 h2 => by rw [k1 q h2]; exact f1 q h1 h2) (fun x x1 x2 => by rw [k1 133 (by omega)]; exact f2 x x1 x2) ⟨k3, fun x x1 x2 q1 q2 => ?_⟩
                have b := f3.1.1 x x1 x2
                by_cases hz : c2 134 x = 0
                · rcases k4 x x1 x2 hz with e | e <;> omega
                · have e := k2 x x1 x2 hz
                  by_cases hv : c2 134 x = v
                  · exact hf x x1 x2 hv
                  · exact f3.2 x x1 x2 (by omega) (by omega)
              all_goals (intro q; omega)
            · intro x x1 x2 ih2 hf
              have b := f3.1.1 x x1 x2
              have e133 := f2 x x1 x2
              have rm := hI.2.2.2.2.1 x x1 x2
              have rl := room_le (S := S) (k := x) (by omega)
              have pl := hR.2.1 x x1 x2
              refine b1_141 hG TM_eqo (h2.2.2.1.1.1) (by intros; omega) (by intros; omega) ?_ (by intros; omega) (by intros; omega) rfl (by intros; omega) (by intros; omega) ?_ (e133) (by intros; split <;> omega) ?_ ?_
              · intro q; omega
              · intro q q2
                refine ih2 (fun y y1 y2 hy => ?_)
                by_cases hyx : y = x
                · rw [hyx] at hy; exact absurd hy q2
                · exact hf y y1 (by omega) hy
              · intro q q2 q3
                refine ih2 (fun y y1 y2 hy => ?_)
                by_cases hyx : y = x
                · rw [hyx]; exact q3
                · exact hf y y1 (by omega) hy
              · intro q q2 q3
                refine hz c2 v f1 ⟨fun z => by rcases z with z | z <;> omega, fun _ _ => Or.inr ⟨by omega, by omega, fun way hw hF => ap_low hR hI ⟨j1, j2⟩ ejs p3 v1 f3 hw hF, ap_ex hR hI ⟨j1, j2⟩ ejs p3 hk (by omega) f3 ⟨x1, x2⟩ q2 v1 (by omega)⟩⟩ (by omega)
          refine b1_126 hG (h2.2.2.1.1.1) (by intros; omega) (by intros; omega) ?_ ?_
          · intro q; omega
          · intro q
            exact chk 0 (by omega) g.1 (fun q q1 q2 => by omega)
      have cp : ∀ x, 0 ≤ x → x ≤ S 0 → ∀ c2 : CC, (∀ q, ¬ q = 133 → ¬ q = 134 → c2 q = c q) → (∀ q, 0 ≤ q → q < x → c2 133 q = room S q ∧ c2 134 q = if q = k then 1 else 0) → T (d + 2) 1 60 [some (aR 132), some (aI s), some (aI k), some (aI (S (173 + s) - 1)), some (aI x), none] [] (G, c2) (QM Q) := by
        refine int_ind ?_ ?_
        · intro c2 f1 f2
          have h2 : MsL c2 S := MsL_fr h (fun r hr => f1 r (by omega) (by omega))
          refine b1_60 hG TM_eqo (h2.2.2.1.1.1) (by omega) (by omega) (by intros; omega) (by intros; omega) rfl ?_ (by intros; exfalso; omega) (by intros; exfalso; omega) rfl (by intros; exfalso; omega) ?_ ?_
          · intro q
            have e134 : ∀ x, 0 ≤ x → x < S 0 → (q_up c2 133 (S (173 + s) - 1) (c2 133 (S (173 + s) - 1) + 1)) 134 x = if x = k then 1 else 0 := fun x x1 x2 => by
              rw [up_r (by omega)]; exact (f2 x x1 x2).2
            refine lev 1 (by omega) (by omega) _ (fun q h1 h2 => by rw [up_r h1]; exact f1 q h1 h2) (fun x x1 x2 => ?_) ⟨⟨fun x x1 x2 => ?_, ?_, fun x x1 x2 hx => ?_, fun x x1 x2 hx => ?_, fun j q1 q2 q3 q4 q5 => by omega⟩, fun x x1 x2 q1 q2 => by omega⟩
            · by_cases hx : x = S (173 + s) - 1
              · rw [hx, up_e, if_pos rfl, (f2 _ (by omega) (by omega)).1]
              · rw [up_n (by omega), if_neg hx, (f2 x x1 x2).1]; omega
            · rw [e134 x x1 x2]; split <;> omega
            · rw [e134 k hk.1 hk.2, if_pos rfl]
            · rw [e134 x x1 x2] at hx
              by_cases hxk : x = k
              · exact hxk
              · rw [if_neg hxk] at hx; omega
            · rw [e134 x x1 x2] at hx
              by_cases hxk : x = k
              · rw [if_pos hxk] at hx; omega
              · rw [if_neg hxk] at hx; omega
          · intro q; omega
          · intro q; omega
        · intro x x1 x2 ih c2 f1 f2
          have h2 : MsL c2 S := MsL_fr h (fun r hr => f1 r (by omega) (by omega))
          have fill : ∀ e : Int, (e = if x = k then 1 else 0) → T (d + 2) 1 60 [some (aR 132), some (aI s), some (aI k), some (aI (S (173 + s) - 1)), some (aI (x + 1)), none] [] (G, (q_up (q_up c2 133 x (room S x)) 134 x e)) (QM Q) := fun e he => by
            refine ih _ (fun q h1 h2 => by rw [up_r h2, up_r h1]; exact f1 q h1 h2) (fun q q1 q2 => ?_)
            by_cases hq : q = x
            · rw [hq, up_n (by omega), up_e, up_e]; exact ⟨rfl, he⟩
            · rw [up_n (by omega), up_n (by omega), up_n (by omega), up_n (by omega)]; exact f2 q q1 (by omega)
          refine b1_60 hG TM_eqo (h2.2.2.1.1.1) (by intros; omega) (by intros; omega) (by intros; omega) (by intros; omega) rfl ?_ (by intros; omega) (by intros; omega) (h2.2.2.2.2 x x1 x2) (by intros; omega) ?_ ?_
          · intro q; omega
          · intro q q2; exact fill 0 (by rw [if_neg q2])
          · intro q q2; exact fill 1 (by rw [if_pos q2])
      exact cp 0 (by omega) g.1 c (fun _ _ _ => rfl) (fun q q1 q2 => by omega)
    · intro p2 p3 p4; exfalso; omega
    · intro p2 p3 p4; exfalso; omega
    · intro p2
      exact hz c (-1) (fun _ _ _ => rfl) ⟨fun _ => rfl, fun _ q => absurd p2 q⟩ (by omega)
end SPad
