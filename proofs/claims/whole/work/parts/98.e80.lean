section SPjf
variable {d : Nat} {G : GG} {c c' c0 : CC} {v v4 : Int} {Q : Option AV → HH → Prop}
theorem r_thrown (hG : Shp G) (hz : Q (some (aI (c 188 0))) (G, c)) : TM d 158 [aR 188] (G, c) Q := by
  refine b158_0 hG rfl ?_
  exact hz
theorem arm_6 (hG : Shp G) (hc : GR c c) (h0 : 0 ≤ v4) (h6 : v4 + 6 ≤ (G.2.2.2.2.1 : Int)) (hk : ∀ c2, GR c2 c2 → c2 0 0 ≤ c 0 0 + 1 → T (d + 52) 271 1328 [some (aR q_S), some (aR 1), some (aR 188), some (aR 211), some (aI v4), none, none] [] (G, c2) (QM Q)) : T (d + 52) 271 406 [some (aR q_S), some (aR 1), some (aR 188), some (aR 211), some (aI v4), none, none] [] (G, c) (QM Q) := by
  have b1 : I32 (scr G (v4 + 1)) := scr_b
  have b2 : I32 (scr G (v4 + 2)) := scr_b
  refine b271_406 hG (by intros; omega) (by intros; omega) (by intros; omega) (by intros; omega) ?_
  refine T_mono (fun oo h' z => ?_) (T_all (ι := {c0 : CC // GR c c0}) ⟨c, hc⟩ (fun i => (op_soul (d := d) hG i.2 b1 b2 : T (d + 50) 121 0 _ [] (G, c) _)))
  have zc := z ⟨c, hc⟩
  cases oo with
  | inl r =>
    obtain ⟨e1, x⟩ := zc
    subst e1
    obtain ⟨n, o, h2, e, q⟩ := T_in x
    cases o with
    | inr w => exact False.elim q
    | inl r2 =>
      obtain ⟨_, _, _, _, v, r1, _, r3⟩ := (show ∃ cB', h2 = (G, cB') ∧ GR c cB' ∧ cB' 188 0 = 0 ∧ ∃ v, r = some (aI v) ∧ r2 = some (aI v) ∧ I32 v from q)
      refine ⟨c, v, r1, r3, rfl, ?_⟩
      refine b271_423 hG (by intros; omega) (by intros; omega) (by intros; omega) (by intros; omega) ?_
      refine TM_Qm (fun r4 h4 y => ?_) (TM_deep (TM_fo hG rfl (pO_ints in2) x (c0 := q_up c 211 0 v) (fun r q1 q2 => up_r (by omega))))
      obtain ⟨c', ⟨cB2, z1, z2, z3, v', z4, z5, z6⟩, z7⟩ := y
      have ec : c' = cB2 := by cases z1; rfl
      subst ec
      have ev' : v' = v := by rw [r1] at z4; cases z4; rfl
      subst ev'
      subst z7; subst z5
      have gm := GR_mo (c0 := q_up c 211 0 v') z2 (fun r q1 q2 => up_r (by omega))
      have k0 : (mrg rO c' (q_up c 211 0 v')) 0 0 = c 0 0 := by unfold mrg; rw [if_neg (rO_f (by omega))]; exact up_n (by omega)
      have m0 : (mrg rO c' (q_up c 211 0 v')) 188 0 = 0 := by unfold mrg; rw [if_pos (rO_m (by omega))]; exact z3
      have m1 : (mrg rO c' (q_up c 211 0 v')) 211 0 = v' := by unfold mrg; rw [if_neg (rO_f (by omega))]; exact up_e
      refine b271_441 hG ?_
      refine r_thrown hG ?_
      rw [m0]
      refine b271_447 hG TM_eqo (by intros; omega) (by intros; omega) ?_ (m1) (by intros; omega) (by intros; omega) (by intros; omega) (by intros; split <;> (try split) <;> omega) ?_ ?_ ?_
      · intro p p2; exact hk _ gm (by omega)
      · intro p p2 p3; exact hk _ gm (by omega)
      · intro p p2 p3
        exfalso
        rw [if_neg (by omega), if_pos rfl] at p3
        exact p3 rfl
      · intro p; exact absurd rfl p
  | inr w =>
    obtain ⟨e1, x⟩ := zc
    subst e1
    refine ⟨c, rfl, ?_⟩
    refine b271_423 hG (by intros; omega) (by intros; omega) (by intros; omega) (by intros; omega) ?_
    refine TM_Qm (fun r4 h4 y => ?_) (TM_deep (TM_fo hG rfl (pO_ints in2) x (c0 := q_up c 0 0 (c 0 0 + 1)) (fun r q1 q2 => up_r (by omega))))
    obtain ⟨c', ⟨cB2, z1, z2, z3, v', z4, z6⟩, z7⟩ := y
    have ec : c' = cB2 := by cases z1; rfl
    subst ec
    subst z7; subst z4
    have gm := GR_mo (c0 := q_up c 0 0 (c 0 0 + 1)) z2 (fun r q1 q2 => up_r q2)
    have k0 : (mrg rO c' (q_up c 0 0 (c 0 0 + 1))) 0 0 = c 0 0 + 1 := by unfold mrg; rw [if_neg (rO_f (by omega))]; exact up_e
    have m0 : (mrg rO c' (q_up c 0 0 (c 0 0 + 1))) 188 0 = 1 := by unfold mrg; rw [if_pos (rO_m (by omega))]; exact z3
    refine b271_441 hG ?_
    refine r_thrown hG ?_
    rw [m0]
    refine b271_447 hG TM_eqo (by omega) (by omega) ?_ rfl (by intros; exfalso; omega) (by intros; exfalso; omega) (by intros; exfalso; omega) (by intros; exfalso; omega) ?_ ?_ ?_
    · intro p p2; exact hk _ gm (by omega)
    · intro p p2; omega
    · intro p p2; omega
    · intro p; exact absurd rfl p
theorem arm_18 (hG : Shp G) (hc : GR c c) (h0 : 0 ≤ v4) (h6 : v4 + 6 ≤ (G.2.2.2.2.1 : Int)) (hk : ∀ c2, GR c2 c2 → c2 0 0 ≤ c 0 0 + 1 → T (d + 52) 271 1328 [some (aR q_S), some (aR 1), some (aR 188), some (aR 211), some (aI v4), none, none] [] (G, c2) (QM Q)) : T (d + 52) 271 785 [some (aR q_S), some (aR 1), some (aR 188), some (aR 211), some (aI v4), none, none] [] (G, c) (QM Q) := by
  have b1 : I32 (scr G (v4 + 1)) := scr_b
  have b2 : I32 (scr G (v4 + 2)) := scr_b
  refine b271_785 hG (by intros; omega) (by intros; omega) ?_
  refine T_mono (fun oo h' z => ?_) (T_all (ι := {c0 : CC // GR c c0}) ⟨c, hc⟩ (fun i => (op_net (d := d) hG i.2 b1 : T (d + 50) 139 0 _ [] (G, c) _)))
  have zc := z ⟨c, hc⟩
  cases oo with
  | inl r =>
    obtain ⟨e1, x⟩ := zc
    subst e1
    obtain ⟨n, o, h2, e, q⟩ := T_in x
    cases o with
    | inr w => exact False.elim q
    | inl r2 =>
      obtain ⟨_, _, _, _, v, r1, _, r3⟩ := (show ∃ cB', h2 = (G, cB') ∧ GR c cB' ∧ cB' 188 0 = 0 ∧ ∃ v, r = some (aI v) ∧ r2 = some (aI v) ∧ I32 v from q)
      refine ⟨c, v, r1, r3, rfl, ?_⟩
      refine b271_796 hG (by intros; omega) (by intros; omega) ?_
      refine TM_Qm (fun r4 h4 y => ?_) (TM_deep (TM_fo hG rfl (pO_ints in1) x (c0 := q_up c 211 0 v) (fun r q1 q2 => up_r (by omega))))
      obtain ⟨c', ⟨cB2, z1, z2, z3, v', z4, z5, z6⟩, z7⟩ := y
      have ec : c' = cB2 := by cases z1; rfl
      subst ec
      have ev' : v' = v := by rw [r1] at z4; cases z4; rfl
      subst ev'
      subst z7; subst z5
      have gm := GR_mo (c0 := q_up c 211 0 v') z2 (fun r q1 q2 => up_r (by omega))
      have k0 : (mrg rO c' (q_up c 211 0 v')) 0 0 = c 0 0 := by unfold mrg; rw [if_neg (rO_f (by omega))]; exact up_n (by omega)
      have m0 : (mrg rO c' (q_up c 211 0 v')) 188 0 = 0 := by unfold mrg; rw [if_pos (rO_m (by omega))]; exact z3
      have m1 : (mrg rO c' (q_up c 211 0 v')) 211 0 = v' := by unfold mrg; rw [if_neg (rO_f (by omega))]; exact up_e
      refine b271_808 hG ?_
      refine r_thrown hG ?_
      rw [m0]
      refine b271_814 hG TM_eqo (by intros; omega) (by intros; omega) ?_ (m1) (by intros; omega) (by intros; omega) (by intros; omega) (by intros; split <;> (try split) <;> omega) ?_ ?_ ?_
      · intro p p2; exact hk _ gm (by omega)
      · intro p p2 p3; exact hk _ gm (by omega)
      · intro p p2 p3
        exfalso
        rw [if_neg (by omega), if_pos rfl] at p3
        exact p3 rfl
      · intro p; exact absurd rfl p
  | inr w =>
    obtain ⟨e1, x⟩ := zc
    subst e1
    refine ⟨c, rfl, ?_⟩
    refine b271_796 hG (by intros; omega) (by intros; omega) ?_
    refine TM_Qm (fun r4 h4 y => ?_) (TM_deep (TM_fo hG rfl (pO_ints in1) x (c0 := q_up c 0 0 (c 0 0 + 1)) (fun r q1 q2 => up_r (by omega))))
    obtain ⟨c', ⟨cB2, z1, z2, z3, v', z4, z6⟩, z7⟩ := y
    have ec : c' = cB2 := by cases z1; rfl
    subst ec
    subst z7; subst z4
    have gm := GR_mo (c0 := q_up c 0 0 (c 0 0 + 1)) z2 (fun r q1 q2 => up_r q2)
    have k0 : (mrg rO c' (q_up c 0 0 (c 0 0 + 1))) 0 0 = c 0 0 + 1 := by unfold mrg; rw [if_neg (rO_f (by omega))]; exact up_e
    have m0 : (mrg rO c' (q_up c 0 0 (c 0 0 + 1))) 188 0 = 1 := by unfold mrg; rw [if_pos (rO_m (by omega))]; exact z3
    refine b271_808 hG ?_
    refine r_thrown hG ?_
    rw [m0]
    refine b271_814 hG TM_eqo (by omega) (by omega) ?_ rfl (by intros; exfalso; omega) (by intros; exfalso; omega) (by intros; exfalso; omega) (by intros; exfalso; omega) ?_ ?_ ?_
    · intro p p2; exact hk _ gm (by omega)
    · intro p p2; omega
    · intro p p2; omega
    · intro p; exact absurd rfl p
end SPjf
