section SPX
variable {d : Nat} {G : GG} {c c' cA cB cA1 cB1 cA' cB' : CC} {Q : Option AV → HH → Prop} {v1 v2 v3 v4 v5 n nx i j N x s w : Int} {S S' : SS} {a : Nat}
abbrev QX (P1 : Option AV → HH → Prop) (P2 : HH → Prop) : OO → HH → Prop := fun o h' => match o with | .inl r => P1 r h' | .inr _ => P2 h'
theorem eqo_X {P1 : Option AV → HH → Prop} {P2 : HH → Prop} : ∀ o o' h', q_eqo o o' → QX P1 P2 o h' → QX P1 P2 o' h' := by
  intro o o' h' he ho
  cases o with
  | inl r =>
    cases o' with
    | inl r' => cases he; exact ho
    | inr z => cases he
  | inr z =>
    cases o' with
    | inl r' => cases he
    | inr z' => exact ho
def OPX (G : GG) (d kx km : Nat) (L : LV) (ax : List AV) (cA cB : CC) : Prop := T d kx 0 L [] (G, cA) (QX (fun r1 h1 => h1 = (G, cA) ∧ TM d km (aR 188 :: ax) (G, cB) (fun r2 h2 => ∃ cB', h2 = (G, cB') ∧ GR cA cB' ∧ cB' 188 0 = 0 ∧ ∃ v, r1 = some (aI v) ∧ r2 = some (aI v) ∧ I32 v)) (fun h1 => h1 = (G, cA) ∧ TM d km (aR 188 :: ax) (G, cB) (fun r2 h2 => ∃ cB', h2 = (G, cB') ∧ GR cA cB' ∧ cB' 188 0 = 1 ∧ ∃ v, r2 = some (aI v) ∧ I32 v)))
def soulV (S : SS) (s w : Int) : Int := if w = 0 then S (173 + s) - 1 else if w = 1 then S (181 + s) else if w = 2 then S (189 + s) else if w = 3 then S (51 + s) else if w = 4 then S (59 + s) - 1 else if w = 5 then dbtF S s else if w = 6 then dueF S s else S (197 + s)
theorem soulV_b (h : GS S) (h1 : 0 ≤ v1) (h2 : v1 < 8) : I32 (soulV S v1 v2) := by
  have g := h.1.1
  have a1 := h.2.1.1 v1 h1 h2
  have a2 := h.2.2.1.2.2.1 v1 h1 h2
  have a3 := h.2.2.2
  have a4 := h.1.2.2.2.2.1 v1 h1 h2
  have a5 := dbt_b h.2.1 h1 h2
  have a6 := due_b h.2.1 h1 h2
  unfold soulV
  omega
theorem r_throwsIf (hG : Shp G) (h : v1 = 0 ∨ v1 = 1) (hz : Q (some (aI v1)) (G, q_up c 188 0 v1)) : TM d 159 [aR 188, aI v1] (G, c) Q := by
  refine b159_0 hG (by intros; omega) (by intros; omega) ?_ (by intros; omega) ?_
  · intro p1
    rw [p1] at hz ⊢
    exact hz
  · intro p1
    rw [show v1 = 1 by omega] at hz ⊢
    exact hz
theorem op_soul (hG : Shp G) (h : GR cA cB) (h1 : I32 v1) (h2 : I32 v2) : OPX G (d + 50) 121 194 [some (aR 1), some (aI v1), some (aI v2)] [aI v1, aI v2] cA cB := by
  have hS := h.1
  have hR := h.1.1
  have hI := h.1.2.1
  have hr := h.2.1.1
  have hL := h.2.2.1
  have g := hR.1
  have b1 := isSo_01 (S := cB 190) (k := v1)
  by_cases hw : isSo (cB 190) v1 = 1 ∧ 0 ≤ v2 ∧ v2 ≤ 7
  · obtain ⟨k1, k2⟩ := isSo_t (S := cB 190) (k := v1) (by omega)
    have hm : ∀ v, v = soulV (cB 190) v1 v2 → TM (d + 50) 194 [aR 188, aI v1, aI v2] (G, cB) (fun r2 h2 => ∃ cB', h2 = (G, cB') ∧ GR cA cB' ∧ cB' 188 0 = 0 ∧ ∃ v', some (aI v) = some (aI v') ∧ r2 = some (aI v') ∧ I32 v') := by
      intro v hv
      suffices all : ∀ Q2 : Option AV → HH → Prop, Q2 (some (aI (soulV (cB 190) v1 v2))) (G, q_up cB 188 0 0) → TM (d + 50) 194 [aR 188, aI v1, aI v2] (G, cB) Q2 from all _ ⟨_, rfl, GR_thr h, up_e, v, rfl, by rw [hv], by rw [hv]; exact soulV_b hS k1 (by omega)⟩
      intro Q2 hz
      refine b194_0 hG ?_
      refine r_isSoul hG hR h1 ?_
      rw [hw.1]
      refine b194_6 hG (by intros; omega) ?_ ?_
      · intro p1; omega
      · intro p1
        refine r_isIn hG h2 (by omega) (by omega) ?_
        rw [if_pos hw.2]
        refine b194_16 hG (by intros; omega) ?_ ?_
        · intro p2
          refine r_throwsIf hG (Or.inl rfl) ?_
          have fin : ∀ Q3 : Option AV → HH → Prop, Q3 (some (aI (soulV (cB 190) v1 v2))) (G, q_up cB 188 0 0) → T (d + 50) 194 27 [some (aR 188), some (aI v1), some (aI v2)] [aI 0] (G, q_up cB 188 0 0) (QM Q3) := by
            intro Q3 hz
            have e190 : (q_up cB 188 0 0) 190 = cB 190 := up_r (by omega)
            generalize q_up cB 188 0 0 = c1 at hz e190 ⊢
            rw [← e190] at hz
            unfold soulV at hz
            refine b194_27 hG TM_eqo (by intros; omega) (by intros; omega) (by intros; omega) (by intros; omega) rfl ?_ (by intros; omega) (by intros; omega) rfl ?_ (by intros; omega) (by intros; omega) rfl ?_ (by intros; omega) (by intros; omega) rfl ?_ (by intros; omega) (by intros; omega) rfl ?_ (by intros; omega) (by intros; omega) rfl ?_ ?_ ?_ ?_
            · intro p3 p4; rw [if_neg (by omega), if_neg (by omega), if_neg (by omega), if_neg (by omega), if_neg (by omega), if_neg (by omega), if_neg (by omega)] at hz; exact hz
            · intro p3 p4; rw [if_pos p4] at hz; exact hz
            · intro p3 p4; rw [if_neg (by omega), if_pos p4] at hz; exact hz
            · intro p3 p4; rw [if_neg (by omega), if_neg (by omega), if_pos p4] at hz; exact hz
            · intro p3 p4; rw [if_neg (by omega), if_neg (by omega), if_neg (by omega), if_pos p4] at hz; exact hz
            · intro p3 p4; rw [if_neg (by omega), if_neg (by omega), if_neg (by omega), if_neg (by omega), if_pos p4] at hz; exact hz
            · intro p3 p4; rw [if_neg (by omega), if_neg (by omega), if_neg (by omega), if_neg (by omega), if_neg (by omega), if_pos p4] at hz
              refine r_debtsOf hG k1 (by omega) ?_
              refine b194_138 hG ?_
              exact hz
            · intro p3 p4; rw [if_neg (by omega), if_neg (by omega), if_neg (by omega), if_neg (by omega), if_neg (by omega), if_neg (by omega), if_pos p4] at hz
              refine r_duesOf hG k1 (by omega) ?_
              refine b194_144 hG ?_
              exact hz
            · intro p3; omega
          exact fin _ hz
        · intro p2; omega
    have hz : ∀ v, v = soulV (cB 190) v1 v2 → QX (fun r1 h1 => h1 = (G, cA) ∧ TM (d + 50) 194 [aR 188, aI v1, aI v2] (G, cB) (fun r2 h2 => ∃ cB', h2 = (G, cB') ∧ GR cA cB' ∧ cB' 188 0 = 0 ∧ ∃ v, r1 = some (aI v) ∧ r2 = some (aI v) ∧ I32 v)) (fun h1 => h1 = (G, cA) ∧ TM (d + 50) 194 [aR 188, aI v1, aI v2] (G, cB) (fun r2 h2 => ∃ cB', h2 = (G, cB') ∧ GR cA cB' ∧ cB' 188 0 = 1 ∧ ∃ v, r2 = some (aI v) ∧ I32 v)) (.inl (some (aI v))) (G, cA) := fun v hv => ⟨rfl, hm v hv⟩
    obtain ⟨e1, e2⟩ := hr.2.2.2.1 v1 k1 k2
    obtain ⟨l1, l2, l3, l4⟩ := hL.1.2.1 v1 k1 (by omega)
    rw [show (9 : Nat) + 6 = 15 from rfl] at e1
    rw [show (9 : Nat) + 7 = 16 from rfl] at e2
    rw [show (27 : Nat) + 1 = 28 from rfl] at l1
    rw [show (27 : Nat) + 2 = 29 from rfl] at l2
    rw [show (27 : Nat) + 3 = 30 from rfl] at l3
    rw [show (27 : Nat) + 4 = 31 from rfl] at l4
    unfold soulV at hz
    unfold OPX
    refine b121_0 hG ?_
    refine c_isSoul hG hR hr h1 ?_
    rw [hw.1]
    refine b121_8 hG eqo_X (by intros; omega) ?_ (by intros; omega) ?_ (by intros; omega) (by intros; omega) rfl ?_ (by intros; omega) (by intros; omega) rfl ?_ (by intros; omega) (by intros; omega) rfl ?_ (by intros; omega) (by intros; omega) rfl ?_ (by intros; omega) (by intros; omega) rfl ?_ (by intros; omega) (by intros; omega) rfl ?_ ?_ ?_ ?_
    · intro p1; omega
    · intro p1 p2; omega
    · intro p1 p2 p3 p4
      exact hz _ (by rw [if_neg (by omega), if_neg (by omega), if_neg (by omega), if_neg (by omega), if_neg (by omega), if_neg (by omega), if_neg (by omega)]; exact l4)
    · intro p1 p2 p3 p4
      exact hz _ (by rw [if_pos p4]; exact l1)
    · intro p1 p2 p3 p4
      exact hz _ (by rw [if_neg (by omega), if_pos p4]; exact l2)
    · intro p1 p2 p3 p4
      exact hz _ (by rw [if_neg (by omega), if_neg (by omega), if_pos p4]; exact l3)
    · intro p1 p2 p3 p4
      exact hz _ (by rw [if_neg (by omega), if_neg (by omega), if_neg (by omega), if_pos p4]; exact e1)
    · intro p1 p2 p3 p4
      exact hz _ (by rw [if_neg (by omega), if_neg (by omega), if_neg (by omega), if_neg (by omega), if_pos p4]; exact e2)
    · intro p1 p2 p3 p4
      refine c_owesInAll hG lf27 hR hI hr hL k1 (by omega) ?_
      refine b121_130 hG ?_
      exact hz _ (by rw [if_neg (by omega), if_neg (by omega), if_neg (by omega), if_neg (by omega), if_neg (by omega), if_pos p4])
    · intro p1 p2 p3 p4
      refine c_owedInAll hG lf27 hR hI hr hL k1 (by omega) ?_
      refine b121_139 hG ?_
      exact hz _ (by rw [if_neg (by omega), if_neg (by omega), if_neg (by omega), if_neg (by omega), if_neg (by omega), if_neg (by omega), if_pos p4])
    · intro p1 p2 p3; omega
  · have hm : TM (d + 50) 194 [aR 188, aI v1, aI v2] (G, cB) (fun r2 h2 => ∃ cB', h2 = (G, cB') ∧ GR cA cB' ∧ cB' 188 0 = 1 ∧ ∃ v, r2 = some (aI v) ∧ I32 v) := by
      have fin : ∀ Q3 : Option AV → HH → Prop, Q3 (some (aI 0)) (G, q_up cB 188 0 1) → TM (d + 49) 159 [aR 188, aI 1] (G, cB) (fun r h' => T (d + 50) 194 27 [some (aR 188), some (aI v1), some (aI v2)] (r.toList ++ []) h' (QM Q3)) := by
        intro Q3 hz
        refine r_throwsIf hG (Or.inr rfl) ?_
        refine b194_27 hG TM_eqo (by intros; omega) (by intros; omega) (by intros; omega) (by intros; omega) rfl ?_ (by intros; omega) (by intros; omega) rfl ?_ (by intros; omega) (by intros; omega) rfl ?_ (by intros; omega) (by intros; omega) rfl ?_ (by intros; omega) (by intros; omega) rfl ?_ (by intros; omega) (by intros; omega) rfl ?_ ?_ ?_ ?_
        · intro p3; omega
        · intro p3; omega
        · intro p3; omega
        · intro p3; omega
        · intro p3; omega
        · intro p3; omega
        · intro p3; omega
        · intro p3; omega
        · intro p3; exact hz
      have hz : (fun r2 h2 => ∃ cB', h2 = (G, cB') ∧ GR cA cB' ∧ cB' 188 0 = 1 ∧ ∃ v, r2 = some (aI v) ∧ I32 v) (some (aI 0)) (G, q_up cB 188 0 1) := ⟨_, rfl, GR_thr h, up_e, 0, rfl, by omega⟩
      refine b194_0 hG ?_
      refine r_isSoul hG hR h1 ?_
      refine b194_6 hG (by intros; omega) ?_ ?_
      · intro p1; exact fin _ hz
      · intro p1
        refine r_isIn hG h2 (by omega) (by omega) ?_
        refine b194_16 hG (by intros; omega) ?_ ?_
        · intro p2; omega
        · intro p2; exact fin _ hz
    have hz : QX (fun r1 h1 => h1 = (G, cA) ∧ TM (d + 50) 194 [aR 188, aI v1, aI v2] (G, cB) (fun r2 h2 => ∃ cB', h2 = (G, cB') ∧ GR cA cB' ∧ cB' 188 0 = 0 ∧ ∃ v, r1 = some (aI v) ∧ r2 = some (aI v) ∧ I32 v)) (fun h1 => h1 = (G, cA) ∧ TM (d + 50) 194 [aR 188, aI v1, aI v2] (G, cB) (fun r2 h2 => ∃ cB', h2 = (G, cB') ∧ GR cA cB' ∧ cB' 188 0 = 1 ∧ ∃ v, r2 = some (aI v) ∧ I32 v)) (.inr (21, [some (aR 1), some (aI v1), some (aI v2)])) (G, cA) := ⟨rfl, hm⟩
    unfold OPX
    refine b121_0 hG ?_
    refine c_isSoul hG hR hr h1 ?_
    refine b121_8 hG eqo_X (by intros; omega) ?_ (by intros; omega) ?_ (by intros; omega) (by intros; omega) rfl ?_ (by intros; omega) (by intros; omega) rfl ?_ (by intros; omega) (by intros; omega) rfl ?_ (by intros; omega) (by intros; omega) rfl ?_ (by intros; omega) (by intros; omega) rfl ?_ (by intros; omega) (by intros; omega) rfl ?_ ?_ ?_ ?_
    · intro p1; exact hz
    · intro p1 p2; exact hz
    · intro p1 p2 p3; omega
    · intro p1 p2 p3; omega
    · intro p1 p2 p3; omega
    · intro p1 p2 p3; omega
    · intro p1 p2 p3; omega
    · intro p1 p2 p3; omega
    · intro p1 p2 p3; omega
    · intro p1 p2 p3; omega
    · intro p1 p2 p3; exact hz
theorem op_net (hG : Shp G) (h : GR cA cB) (h1 : I32 v1) : OPX G (d + 50) 139 223 [some (aR 1), some (aI v1)] [aI v1] cA cB := by
  have hS := h.1
  have hR := h.1.1
  have hI := h.1.2.1
  have hr := h.2.1.1
  have hL := h.2.2.1
  have g := hR.1
  have b1 := isSo_01 (S := cB 190) (k := v1)
  by_cases hw : isSo (cB 190) v1 = 1
  · obtain ⟨k1, k2⟩ := isSo_t (S := cB 190) (k := v1) (by omega)
    have d1 := dbt_b hI k1 (show v1 < 8 by omega)
    have d2 := due_b hI k1 (show v1 < 8 by omega)
    have hm : TM (d + 50) 223 [aR 188, aI v1] (G, cB) (fun r2 h2 => ∃ cB', h2 = (G, cB') ∧ GR cA cB' ∧ cB' 188 0 = 0 ∧ ∃ v', some (aI (dueF (cB 190) v1 - dbtF (cB 190) v1)) = some (aI v') ∧ r2 = some (aI v') ∧ I32 v') := by
      refine b223_0 hG ?_
      refine r_isSoul hG hR h1 ?_
      rw [hw]
      refine b223_6 hG (by intros; omega) ?_ ?_
      · intro p1
        refine r_throwsIf hG (Or.inl rfl) ?_
        have e190 : (q_up cB 188 0 0) 190 = cB 190 := up_r (by omega)
        refine b223_17 hG TM_eqo (by intros; omega) ?_ ?_
        · intro p2
          refine b222_0 hG ?_
          refine r_duesOf hG k1 (by omega) ?_
          refine b222_5 hG TM_eqo ?_
          refine r_debtsOf hG k1 (by omega) ?_
          refine b222_10 hG ?_
          refine b223_29 hG ?_
          rw [e190]
          exact ⟨_, rfl, GR_thr h, up_e, _, rfl, rfl, by omega⟩
        · intro p2; omega
      · intro p1; omega
    unfold OPX
    refine b139_0 hG ?_
    refine c_isSoul hG hR hr h1 ?_
    rw [hw]
    refine b139_8 hG (by intros; omega) ?_ ?_
    · intro p1
      refine c_owedInAll hG lf27 hR hI hr hL k1 (by omega) ?_
      refine b139_27 hG eqo_X ?_
      refine c_owesInAll hG lf27 hR hI hr hL k1 (by omega) ?_
      refine b139_35 hG ?_
      exact ⟨rfl, hm⟩
    · intro p1; omega
  · have hm : TM (d + 50) 223 [aR 188, aI v1] (G, cB) (fun r2 h2 => ∃ cB', h2 = (G, cB') ∧ GR cA cB' ∧ cB' 188 0 = 1 ∧ ∃ v, r2 = some (aI v) ∧ I32 v) := by
      refine b223_0 hG ?_
      refine r_isSoul hG hR h1 ?_
      refine b223_6 hG (by intros; omega) ?_ ?_
      · intro p1; omega
      · intro p1
        refine r_throwsIf hG (Or.inr rfl) ?_
        refine b223_17 hG TM_eqo (by intros; omega) ?_ ?_
        · intro p2; omega
        · intro p2
          refine b223_29 hG ?_
          exact ⟨_, rfl, GR_thr h, up_e, 0, rfl, by omega⟩
    unfold OPX
    refine b139_0 hG ?_
    refine c_isSoul hG hR hr h1 ?_
    refine b139_8 hG (by intros; omega) ?_ ?_
    · intro p1; omega
    · intro p1; exact ⟨rfl, hm⟩
end SPX
