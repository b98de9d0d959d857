section SPai
variable {d : Nat} {G : GG} {c c' c0 cA cB : CC} {Q : Option AV → HH → Prop} {S X : SS} {m K k js v t x y j j0 i N s o b n fb v1 v2 : Int} {L f way w r r' : Int → Int}
def ApC (S : SS) (s k v : Int) : Prop := (¬ isSo S s = 0 → ¬ isK S k = 0 → ApV S s k v) ∧ ((isSo S s = 0 ∨ isK S k = 0) → v = -1)
theorem c_131 (hG : Shp G) (h : MsL c S) (h1 : I32 v1) (h2 : I32 v2) (hz : ∀ c' v, (∀ q, ¬ q = 133 → ¬ q = 134 → c' q = c q) → ApC S v1 v2 v → I32 v → Q (some (aI v)) (G, c')) : TM (d + 3) 131 [aR 1, aI v1, aI v2] (G, c) Q := by
  have hr := h.2.2.1
  have b1 := isSo_01 (S := S) (k := v1)
  have b2 := isK_01 (S := S) (k := v2)
  refine b131_0 hG ?_
  refine c_isSoul hG h.1 hr h1 ?_
  refine b131_8 hG (by intros; omega) ?_ ?_
  · intro p; exact hz c (-1) (fun _ _ _ => rfl) ⟨fun q => absurd p q, fun _ => rfl⟩ (by omega)
  · intro p
    refine c_isKind hG h.1 hr h2 ?_
    refine b131_19 hG TM_eqo (by intros; omega) ?_ ?_
    · intro p2; exact hz c (-1) (fun _ _ _ => rfl) ⟨fun _ q => absurd p2 q, fun _ => rfl⟩ (by omega)
    · intro p2
      refine c_fewest hG h (isSo_t p) (isK_t p2) ?_
      intro cA1 v f1 hA hv
      refine b131_31 hG ?_
      exact hz cA1 v f1 ⟨fun _ _ => hA, fun q => by rcases q with q | q <;> omega⟩ hv
theorem ap_yes (hR : InvR S) (hI : InvL S) (h : ApC S s k v) (hv : 1 ≤ v) : ¬ isSo S s = 0 ∧ ¬ isK S k = 0 ∧ ¬ S (197 + s) = 0 ∧ bt (S (51 + s)) k = 1 ∧ ¬ S (173 + s) - 1 = k ∧ v ≤ 8 ∧ (aprF S s k).1 = v ∧ fstW S s k v (mT S).toNat 0 (fun _ => 0) = some (aprF S s k).2 ∧ Box (aprF S s k).2 (mT S) (S 0) ∧ Feas S s k (aprF S s k).2 := by
  have mb := mT_b hR
  have q1 : ¬ isSo S s = 0 := fun z => by have := h.2 (Or.inl z); omega
  have q2 : ¬ isK S k = 0 := fun z => by have := h.2 (Or.inr z); omega
  have hA := h.1 q1 q2
  have q3 : ¬ S (197 + s) = 0 := fun z => by have := hA.1 (Or.inl z); omega
  have q4 : ¬ bt (S (51 + s)) k = 0 := fun z => by have := hA.1 (Or.inr z); omega
  have hb : bt (S (51 + s)) k = 0 ∨ bt (S (51 + s)) k = 1 := bt_01
  obtain ⟨e1, e2⟩ := ap_val hR hA q3 q4
  have e3 := e2 (by omega)
  obtain ⟨k1, k2⟩ := isK_t q2
  obtain ⟨f1, f2, f3⟩ := fst_ok hR (mT S).toNat 0 (fun _ => 0) (aprF S s k).2 (by omega) (by omega) (fun j j1 j2 => by omega) e3
  refine ⟨q1, q2, q3, by omega, fun z => ?_, ?_, e1, e3, f1, f2⟩
  · obtain ⟨i1, i2⟩ := ap_id hR hI z
    rcases hA.2 q3 q4 with ⟨e, _⟩ | ⟨_, _, hmin, _⟩
    · omega
    · have := hmin (fun _ => 0) (fun j j1 j2 => ⟨Int.le_refl 0, by show (0 : Int) < S 0; omega⟩) i1
      omega
  · rcases hA.2 q3 q4 with ⟨e, _⟩ | ⟨_, e, _⟩ <;> omega
theorem op_grant (hG : Shp G) (h : GR cA cB) (h1 : I32 v1) (h2 : I32 v2) : OP G (d + 50) 132 237 [aI v1, aI v2] cA cB := by
  have hS := h.1
  have hR := h.1.1
  have hI := h.1.2.1
  have g := hR.1
  have hr := h.2.1.1
  have hL := h.2.2.1
  have hn := h.2.2.2.2.1.1
  have grK : ∀ cA' cB', (∀ r, ¬ (132 ≤ r ∧ r ≤ 135) → cA' r = cA r) → (∀ r, ¬ r = 188 → ¬ r = 197 → ¬ r = 198 → ¬ r = 203 → ¬ r = 204 → cB' r = (q_up cB 188 0 0) r) → (∀ i, ¬ i = 34 → cB' 188 i = (q_up cB 188 0 0) 188 i) → GR cA' cB' := by
    intro cA' cB' fA k1 k2
    have k1' : ∀ r, ¬ r = 188 → ¬ r = 197 → ¬ r = 198 → ¬ r = 203 → ¬ r = 204 → cB' r = cB r := fun r h1 h2 h3 h4 h5 => by rw [k1 r h1 h2 h3 h4 h5, up_r h1]
    have k2' : ∀ i, ¬ i = 34 → ¬ i = 0 → cB' 188 i = cB 188 i := fun i h1 h2 => by rw [k2 i h1, up_n (by omega)]
    exact GR_keep h ⟨fun r p => fA r (by omega), by rw [fA 2 (by omega)], by rw [fA 2 (by omega)], fun i _ _ => by rw [fA 120 (by omega)]⟩ (fun r p => fA r (by omega)) ⟨fun r p => k1' r (by omega) (by omega) (by omega) (by omega) (by omega), fun i p => k2' i (by omega) (by omega), fun j _ _ => by rw [k1' 193 (by omega) (by omega) (by omega) (by omega) (by omega)], by rw [k1' 190 (by omega) (by omega) (by omega) (by omega) (by omega)]; exact SmR_refl _⟩ (k1' 190 (by omega) (by omega) (by omega) (by omega) (by omega)) (k2' 23 (by omega) (by omega)) (k1' 195 (by omega) (by omega) (by omega) (by omega) (by omega))
  have fin0 : ∀ cA' v, (∀ r, ¬ (132 ≤ r ∧ r ≤ 135) → cA' r = cA r) → v < 1 → ApC (cB 190) v1 v2 v → TM (d + 50) 237 [aR 188, aI v1, aI v2] (G, cB) (fun r2 h2 => ∃ cB', h2 = (G, cB') ∧ GR cA' cB' ∧ ∃ w, (some (aI 0)) = some (aI w) ∧ r2 = some (aI w) ∧ I32 w) := by
    intro cA' v fA hv hA
    refine b237_0 hG TM_eqo ?_
    refine r_apOf (S := cB 190) hG hR hI (up_r (by omega)) h1 h2 ?_ ?_
    · intro c' _ k1 k2
      refine b237_11 hG (by intros; omega) ?_ ?_
      · intro q; omega
      · intro q
        exact ⟨c', rfl, grK cA' c' fA k1 k2, 0, rfl, rfl, by omega⟩
    · intro c' q1 q2 q3 q4 k1 k2 k3
      have e := (ap_val hR (hA.1 q1 q2) q3 q4).1
      have bb := k3.1
      refine b237_11 hG (by intros; omega) ?_ ?_
      · intro q; omega
      · intro q
        exact ⟨c', rfl, grK cA' c' fA k1 k2, 0, rfl, rfl, by omega⟩
  have fin1 : ∀ (cA2 cA3 cA' : CC) (v : Int) (r : Int → Int), (∀ r, ¬ (132 ≤ r ∧ r ≤ 135) → cA2 r = cA r) → 1 ≤ v → ApC (cB 190) v1 v2 v → KpA cA2 cA3 (cB 188 23) (cA2 53 2) → FrL 27 cA3 cA' → (∀ j, 0 ≤ j → j < mT (cB 190) → r (wT (cB 190) j) = sgW (cB 190) (aprF (cB 190) v1 v2).2 j) → (∀ r', (∀ j, 0 ≤ j → j < mT (cB 190) → r' (wT (cB 190) j) = sgW (cB 190) (aprF (cB 190) v1 v2).2 j) → LR cA' 27 (grS (cB 190) r' (cB 190 1))) → TM (d + 50) 237 [aR 188, aI v1, aI v2] (G, cB) (fun r2 h2 => ∃ cB', h2 = (G, cB') ∧ GR cA' cB' ∧ ∃ w, (some (aI 1)) = some (aI w) ∧ r2 = some (aI w) ∧ I32 w) := by
    intro cA2 cA3 cA' v r fA hv hA tA fL er lA
    obtain ⟨y1, y2, y3, y4, y5, y6, y7, y8, y9, y10⟩ := ap_yes hR hI hA hv
    refine b237_0 hG TM_eqo ?_
    refine r_apOf (S := cB 190) hG hR hI (up_r (by omega)) h1 h2 ?_ ?_
    · intro c' hno _ _
      exact absurd ⟨y1, y2, y3, by omega⟩ hno
    · intro c' q1 q2 q3 q4 k1 k2 k3
      have gr2 := grK cA2 c' fA k1 k2
      have c190 : c' 190 = cB 190 := by rw [k1 190 (by omega) (by omega) (by omega) (by omega) (by omega), up_r (by omega)]
      have c23 : c' 188 23 = cB 188 23 := by rw [k2 23 (by omega), up_n (by omega)]
      refine b237_11 hG (by intros; omega) ?_ ?_
      · intro q
        refine m_keep hG (by rw [c23]; omega) (fun c2 tB => ?_)
        refine b237_21 hG ?_
        have d190 : c2 190 = cB 190 := by rw [tB.1 190 (by omega) (by omega)]; exact c190
        have d203 : ∀ j, 0 ≤ j → j < mT (cB 190) → c2 203 (wT (cB 190) j) = sgW (cB 190) (aprF (cB 190) v1 v2).2 j := fun j j1 j2 => by
          rw [tB.1 203 (by omega) (by omega)]; exact k3.2 (by omega) j j1 j2
        have rb : ∀ q, 0 ≤ q → q < cB 190 1 → cB 190 (197 + q) = 1 → 0 ≤ c2 203 q ∧ c2 203 q < cB 190 0 := fun q q1 q2 q3 => by
          obtain ⟨j, j1, j2, j3⟩ := wT_all hR q1 q2 (by omega)
          have e := d203 j j1 j2
          rw [j3] at e
          have b := (sgW_b hR hI y9 j1 j2).1
          omega
        have rd := gr_rd (S := cB 190) (r := c2 203) (N := cB 190 1) (by omega) (fun q q1 q2 q3 => by have := rb q q1 q2 q3; omega)
        have key : ∀ o, 0 ≤ o → o ≤ cB 190 1 → T (d + 50) 237 23 [some (aR 188), none, none, some (aI o)] [] (G, q_uf c2 190 (grS (cB 190) (c2 203) o)) (QM (fun r2 h2 => ∃ cB', h2 = (G, cB') ∧ GR cA' cB' ∧ ∃ w, (some (aI 1)) = some (aI w) ∧ r2 = some (aI w) ∧ I32 w)) := by
          refine int_ind ?_ ?_
          · have x1 := (rd (cB 190 1) (by omega) (Int.le_refl _)).1 1 (by omega) (by omega)
            refine b237_23 hG ((congrFun uf_e 1).trans x1) (by omega) (by omega) ?_ (by intros; exfalso; omega) (by intros; exfalso; omega) rfl (by intros; exfalso; omega) ?_ (by intros; exfalso; omega) (by intros; exfalso; omega) rfl (by intros; exfalso; omega) (by intros; exfalso; omega) rfl (by intros; exfalso; omega) (by intros; exfalso; omega) ?_ rfl ?_
            · intro p
              have sm := gr_sm (S := cB 190) (r := c2 203) (N := cB 190 1) (by omega) (cB 190 1) (by omega) (Int.le_refl _)
              have gs := gr_GS hS y10 y9 d203
              refine ⟨_, rfl, GR_act (cT := c') gr2 ?_ fL (fun _ _ => rfl) (fun _ _ => rfl) tB (by rw [c190]; exact sm) gs (lA _ d203), 1, rfl, rfl, by omega⟩
              rw [c23]; exact tA
            all_goals (intro p; omega)
          · intro o p1 p2 ih
            obtain ⟨r1, r2⟩ := rd o p1 (by omega)
            obtain ⟨X, hX⟩ : ∃ X, X = grS (cB 190) (c2 203) o := ⟨_, rfl⟩
            have gs := gr_s (S := cB 190) (r := c2 203) p1
            rw [← hX] at r1 gs ⊢
            have io := hI.1 o p1 (by omega)
            have x1 := r1 1 (by omega) (by omega)
            have x173 := r1 (173 + o) (by omega) (by omega)
            have x197 := r1 (197 + o) (by omega) (by omega)
            have rbo := rb o p1 p2
            refine b237_23 hG ((congrFun uf_e 1).trans x1) (by intros; omega) (by intros; omega) ?_ (by intros; omega) (by intros; omega) ((congrFun uf_e _).trans x197) (by intros; omega) ?_ (by intros; omega) (by intros; omega) ((congrFun uf_e _).trans x173) (by intros; omega) (by intros; omega) (uf_n2 (by omega)) (by intros; omega) (by intros; omega) ?_ (uf_n2 (by omega)) ?_
            · intro p3; omega
            · intro p3 p4
              refine b237_79 hG ?_
              have e : grst (c2 203) o X = X := if_neg (fun z => p4 (by rw [← x197]; exact z.1))
              rw [gs, e] at ih; exact ih
            · intro p3 p4 p5
              refine b237_79 hG ?_
              have e : grst (c2 203) o X = X := if_neg (fun z => z.2 (by rw [x173]; exact p5))
              rw [gs, e] at ih; exact ih
            · intro p3 p4 p5
              have rr := rbo p4
              refine r_lives hG p1 (by omega) rr.1 (by omega) ?_
              rw [uf_e, uf_uf]
              refine b237_79 hG ?_
              have e : grst (c2 203) o X = livesF X o (c2 203 o) := if_pos ⟨by rw [x197]; exact p4, by rw [x173]; exact p5⟩
              rw [gs, e] at ih; exact ih
        have k0 := key 0 (by omega) (by omega)
        have e0 : grS (cB 190) (c2 203) 0 = cB 190 := loopI_0 (by omega)
        rw [e0, uf_id2 d190.symm] at k0
        exact k0
      · intro q; omega
  show TM (d + 50) 132 [aR 1, aI v1, aI v2] (G, cA) _
  refine b132_0 hG ?_
  refine c_131 (S := cB 190) hG ⟨hR, hI, hr, hL⟩ h1 h2 ?_
  intro cA1 v f1 hA hv
  have fr1 : ∀ r, ¬ (132 ≤ r ∧ r ≤ 135) → cA1 r = cA r := fun r hr' => f1 r (by omega) (by omega)
  refine b132_6 hG TM_eqo (by intros; omega) ?_ ?_
  · intro p
    exact ⟨cA1, rfl, fun r hr' => fr1 r (by omega), fin0 cA1 v fr1 (by omega) hA⟩
  · intro p
    obtain ⟨y1, y2, y3, y4, y5, y6, y7, y8, y9, y10⟩ := ap_yes hR hI hA p
    obtain ⟨s1, s2⟩ := isSo_t y1
    obtain ⟨k1, k2⟩ := isK_t y2
    have mb := mT_b hR
    have hM1 : MsL cA1 (cB 190) := MsL_fr (c := cA) ⟨hR, hI, hr, hL⟩ (fun r hr' => fr1 r (by omega))
    refine b3_0 hG TM_eqo (by intros; omega) (by intros; omega) rfl ?_
    have e13 : ∀ x, 0 ≤ x → x < cB 190 0 → (q_uf (q_up (q_up cA1 132 5 v1) 132 6 v2) 133 (q_cp ((q_up (q_up cA1 132 5 v1) 132 6 v2) 13) ((q_up (q_up cA1 132 5 v1) 132 6 v2) 133) 0 0 6)) 133 x = cB 190 (9 + x) := fun x x1 x2 => by
      rw [uf_e, cp0 (by omega) (by omega), up_r (by omega), up_r (by omega)]
      exact (hM1.2.2.1.2.1 x x1 x2).2
    have e13k := e13 v2 k1 k2
    have tw0 : (twN (cB 190) 0).1 = 0 := by rw [tw_0]
    have pk : ∀ c1 : CC, c1 = q_up (q_uf (q_up (q_up cA1 132 5 v1) 132 6 v2) 133 (q_cp ((q_up (q_up cA1 132 5 v1) 132 6 v2) 13) ((q_up (q_up cA1 132 5 v1) 132 6 v2) 133) 0 0 6)) 133 v2 (cB 190 (9 + v2) - 1) → (∀ r, ¬ (132 ≤ r ∧ r ≤ 135) → c1 r = cA r) ∧ c1 132 5 = v1 ∧ c1 132 6 = v2 ∧ ∀ x, 0 ≤ x → x < cB 190 0 → c1 133 x = cB 190 (9 + x) - if x = v2 then 1 else 0 := fun c1 hc1 => by
      rw [hc1]
      refine ⟨fun r hr' => ?_, ?_, ?_, fun x x1 x2 => ?_⟩
      · rw [up_r (by omega), uf_n (by omega), up_r (by omega), up_r (by omega)]; exact fr1 r hr'
      · rw [up_n (by omega), uf_n2 (by omega), up_n (by omega), up_e]
      · rw [up_n (by omega), uf_n2 (by omega), up_e]
      · by_cases hx : x = v2
        · rw [hx, up_e, if_pos rfl]
        · rw [up_n (by omega), e13 x x1 x2, if_neg hx]; omega
    have go : ∀ c1 : CC, (∀ r, ¬ (132 ≤ r ∧ r ≤ 135) → c1 r = cA r) → c1 132 5 = v1 → c1 132 6 = v2 → (∀ x, 0 ≤ x → x < cB 190 0 → c1 133 x = cB 190 (9 + x) - if x = v2 then 1 else 0) → ∀ Q2 : Option AV → HH → Prop, (∀ c2 : CC, (∀ r, ¬ (132 ≤ r ∧ r ≤ 135) → c2 r = cA r) → (∀ j, 0 ≤ j → j < mT (cB 190) → c2 135 (wT (cB 190) j) = sgW (cB 190) (aprF (cB 190) v1 v2).2 j) → (∀ q, 0 ≤ q → q < cB 190 1 → cB 190 (197 + q) = 0 → c2 135 q = cB 190 (173 + q) - 1) → Q2 (some (aI 1)) (G, c2)) → TM (d + 48) 4 [aR 132, aI 0, aI (v - 1)] (G, c1) Q2 := by
      intro c1 g1 g2 g3 g4 Q2 hz
      refine c_four (S := cB 190) (s := v1) (k := v2) (fb := v) hG hR hI ⟨s1, s2⟩ y3 ⟨k1, k2⟩ y4 y5 (cB 190 1).toNat (d + 48) 0 (v - 1) (fun _ => 0) c1 Q2 (by omega) (by omega) (by omega) (MsL_fr (c := cA) ⟨hR, hI, hr, hL⟩ (fun r hr' => g1 r (by omega))) g2 g3 ?_ ?_ ?_
      · rw [tw0]
        refine ⟨fun x x1 x2 => ?_, ⟨?_, by omega, by omega⟩, fun j j1 j2 => by omega, fun j j1 j2 => by omega⟩
        · have z : cntI (sgW (cB 190) (fun _ => 0)) 0 x = 0 := sumI_0 (by omega)
          have pl := hR.2.1 x x1 x2
          rw [g4 x x1 x2, z]
          by_cases hx : x = v2
          · rw [if_pos hx, if_pos ⟨s1, hx⟩]; omega
          · rw [if_neg hx, if_neg (fun z => hx z.2)]; omega
        · have z : chW (fun _ => 0) 0 = 0 := sumI_0 (by omega)
          rw [z, if_pos s1]; omega
      · intro c' w hw hY
        rw [tw0, show (mT (cB 190) - 0).toNat = (mT (cB 190)).toNat by rw [Int.sub_zero], y8] at hw
        have ew := Option.some.inj hw
        rw [tw0] at hY
        obtain ⟨z1, z2, z3, z4, z5⟩ := hY
        refine hz c' (fun r hr' => by rw [z1 r (by omega) (by omega)]; exact g1 r hr') (fun j j1 j2 => by rw [z4 j j1 j2, ew]) (fun q q1 q2 q3 => z5 q q1 q2 q3)
      · intro c' hw _
        rw [tw0, show (mT (cB 190) - 0).toNat = (mT (cB 190)).toNat by rw [Int.sub_zero], y8] at hw
        exact absurd hw (by intro z; cases z)
    rw [e13k]
    obtain ⟨g1, g2, g3, g4⟩ := pk _ rfl
    refine go _ g1 g2 g3 g4 _ ?_
    intro c2 f2 e135 e135n
    refine b3_46 hG (by intros; omega) ?_
    refine b132_22 hG (by intros; omega) ?_ ?_
    · intro q
      have gr2 : GR c2 cB := GR_keep h ⟨fun r p => f2 r (by omega), by rw [f2 2 (by omega)], by rw [f2 2 (by omega)], fun i _ _ => by rw [f2 120 (by omega)]⟩ (fun r p => f2 r (by omega)) ⟨fun _ _ => rfl, fun _ _ => rfl, fun _ _ _ => rfl, SmR_refl _⟩ rfl rfl rfl
      have hn2 := gr2.2.2.2.2.1.1
      have hbw := wsl_b (nx := c2 53 2) ⟨hn2.2.2.2.1, hn2.2.2.2.2⟩
      refine x_keep hG gr2 (fun c3 tA r3 l3 => ?_)
      refine b132_38 hG TM_eqo ?_
      have e3 : c3 135 = c2 135 := tA.1 135 (by omega) (by omega)
      refine c_six (S := cB 190) (r := c3 135) hG hR hI r3 l3 (fun q q1 q2 q3 => by rw [e3]; exact e135n q q1 q2 q3) (fun q q1 q2 q3 => ?_) ?_
      · obtain ⟨j, j1, j2, j3⟩ := wT_all hR q1 q2 q3
        have e := e135 j j1 j2
        rw [j3, ← e3] at e
        have b := (sgW_b hR hI y9 j1 j2).1
        exact ⟨rfl, by omega, by omega⟩
      · intro c4 f4 l4
        refine b132_45 hG ?_
        refine ⟨c4, rfl, fun r hr' => by rw [f4 r (by omega), tA.1 r (by omega) (by omega)]; exact f2 r (by omega), fin1 c2 c3 c4 v (c3 135) f2 p hA tA f4 (fun j j1 j2 => by rw [e3]; exact e135 j j1 j2) (fun r' hr' => ?_)⟩
        have ec : ∀ o, 0 ≤ o → o ≤ cB 190 1 → grS (cB 190) r' o = grS (cB 190) (c3 135) o := by
          have rd := gr_rd (S := cB 190) (r := c3 135) (N := cB 190 1) (by omega) (fun q q1 q2 q3 => by
            obtain ⟨j, j1, j2, j3⟩ := wT_all hR q1 q2 (by omega)
            have e := e135 j j1 j2
            rw [j3, ← e3] at e
            have b := (sgW_b hR hI y9 j1 j2).1
            omega)
          refine int_up ?_ ?_
          · rw [show grS (cB 190) r' 0 = cB 190 from loopI_0 (by omega), show grS (cB 190) (c3 135) 0 = cB 190 from loopI_0 (by omega)]
          · intro o o1 o2 ih
            rw [gr_s o1, gr_s o1, ih]
            have x197 := (rd o o1 (by omega)).1 (197 + o) (by omega) (by omega)
            unfold grst
            rw [x197]
            by_cases ht : cB 190 (197 + o) = 1
            · obtain ⟨j, j1, j2, j3⟩ := wT_all hR o1 o2 (by omega)
              have e := e135 j j1 j2
              have e' := hr' j j1 j2
              rw [j3] at e e'
              rw [e3, e, e']
            · rw [if_neg (fun z => ht z.1), if_neg (fun z => ht z.1)]
        rw [ec (cB 190 1) (by omega) (Int.le_refl _)]
        exact l4
    · intro q; omega
end SPai
