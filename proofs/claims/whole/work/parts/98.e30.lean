section SPol
variable {d d1 d2 r n0 : Nat} {G : GG} {c c' cA cB cA0 cB0 cA' cB' cA1 cB1 : CC} {Q : Option AV → HH → Prop} {v v1 v2 N k p len most stop a b w w' to x y z m M s : Int} {j i' n : Nat} {B f fS : Int → Int} {P : Option AV → HH → Option AV → HH → Prop}
theorem r_disp (hG : Shp G) (hW : Wt B len most stop) (h : RT c B len most stop j)
    (z0 : zS B len stop j = 2 → pN B len stop j = 0 → T (d + 8) 184 7 [some (aR 188), none, none] [aI 1] (G, c) (QM Q))
    (z1 : zS B len stop j = 2 → pN B len stop j = 1 → T (d + 8) 184 114 [some (aR 188), none, none] [aI 1] (G, c) (QM Q))
    (z2 : zS B len stop j = 2 → pN B len stop j = 2 → T (d + 8) 184 271 [some (aR 188), none, none] [aI 1] (G, c) (QM Q))
    (z3 : zS B len stop j = 2 → pN B len stop j = 3 → T (d + 8) 184 332 [some (aR 188), none, none] [aI 1] (G, c) (QM Q))
    (z4 : zS B len stop j = 2 → pN B len stop j = 4 → T (d + 8) 184 481 [some (aR 188), none, none] [aI 1] (G, c) (QM Q))
    (z5 : zS B len stop j = 2 → pN B len stop j = 5 → T (d + 8) 184 561 [some (aR 188), none, none] [aI 1] (G, c) (QM Q))
    (z6 : zS B len stop j = 2 → pN B len stop j = 6 → T (d + 8) 184 678 [some (aR 188), none, none] [aI 1] (G, c) (QM Q))
    (zn : ¬ (zS B len stop j = 2 ∧ 0 ≤ pN B len stop j ∧ pN B len stop j ≤ 6) → ∀ c', FlB c c' 1 (pP B len stop j) → Q (some (aI 0)) (G, c')) : TM (d + 8) 184 [aR 188] (G, c) Q := by
  refine b184_0 hG ?_
  refine r_isWord hG hW h 0 (by omega) (by omega) (by decide +kernel) ?_
  by_cases h0 : zS B len stop j = 2 ∧ pN B len stop j = 0
  · rw [if_pos h0]; exact z0 h0.1 h0.2
  rw [if_neg h0]
  refine b184_7 hG TM_eqo (by intros; omega) ?_ rfl (by intros; omega) ?_ ?_
  rotate_left
  · intro q; omega
  · intro q; omega
  intro _
  refine r_isWord hG hW h 1 (by omega) (by omega) (by decide +kernel) ?_
  by_cases h1 : zS B len stop j = 2 ∧ pN B len stop j = 1
  · rw [if_pos h1]; exact z1 h1.1 h1.2
  rw [if_neg h1]
  refine b184_114 hG (by intros; omega) ?_ ?_
  rotate_left
  · intro q; omega
  intro _
  refine r_isWord hG hW h 2 (by omega) (by omega) (by decide +kernel) ?_
  by_cases h2 : zS B len stop j = 2 ∧ pN B len stop j = 2
  · rw [if_pos h2]; exact z2 h2.1 h2.2
  rw [if_neg h2]
  refine b184_271 hG TM_eqo (by intros; omega) ?_ rfl (by intros; omega) ?_ ?_
  rotate_left
  · intro q; omega
  · intro q; omega
  intro _
  refine r_isWord hG hW h 3 (by omega) (by omega) (by decide +kernel) ?_
  by_cases h3 : zS B len stop j = 2 ∧ pN B len stop j = 3
  · rw [if_pos h3]; exact z3 h3.1 h3.2
  rw [if_neg h3]
  refine b184_332 hG (by intros; omega) ?_ ?_
  rotate_left
  · intro q; omega
  intro _
  refine r_isWord hG hW h 4 (by omega) (by omega) (by decide +kernel) ?_
  by_cases h4 : zS B len stop j = 2 ∧ pN B len stop j = 4
  · rw [if_pos h4]; exact z4 h4.1 h4.2
  rw [if_neg h4]
  refine b184_481 hG (by intros; omega) ?_ ?_
  rotate_left
  · intro q; omega
  intro _
  refine r_isWord hG hW h 5 (by omega) (by omega) (by decide +kernel) ?_
  by_cases h5 : zS B len stop j = 2 ∧ pN B len stop j = 5
  · rw [if_pos h5]; exact z5 h5.1 h5.2
  rw [if_neg h5]
  refine b184_561 hG (by intros; omega) ?_ ?_
  rotate_left
  · intro q; omega
  intro _
  refine r_isWord hG hW h 6 (by omega) (by omega) (by decide +kernel) ?_
  by_cases h6 : zS B len stop j = 2 ∧ pN B len stop j = 6
  · rw [if_pos h6]; exact z6 h6.1 h6.2
  rw [if_neg h6]
  refine b184_678 hG TM_eqo (by intros; omega) rfl (by intros; omega) ?_ ?_ ?_
  · intro q; omega
  · intro q; omega
  · intro q
    refine r_bad hG h (fun c' f1 => ?_)
    refine b184_686 hG (Or.inl rfl) ?_
    exact zn (by omega) c' f1
theorem Ln_r {r1 r2 : Option AV} {h1 h2 : HH} (h : LnP G cA0 cB0 B len most stop j r1 h1 r2 h2) : ∃ v cA, (v = 0 ∨ v = 1) ∧ r1 = some (aI v) ∧ h1 = (G, cA) := by
  obtain ⟨cA, cB, e1, e2, f1, f2, h | h⟩ := h
  · exact ⟨0, cA, Or.inl rfl, h.1, e1⟩
  · exact ⟨1, cA, Or.inr rfl, h.1, e1⟩
theorem ln_all (hG : Shp G) (hW : Wt B len most stop) (h : StO cA0 cB0 B len most stop j cA cB) (h0 : ¬ zS B len stop j = 0) : TM (d1 + 9) 60 [aR 119] (G, cA) (fun r1 y1 => TM (d2 + 8) 184 [aR 188] (G, cB) (fun r2 y2 => LnP G cA0 cB0 B len most stop j r1 y1 r2 y2)) := by
  obtain ⟨e1, e2, e3, e4⟩ := TA_e h.1
  have b := p_b hW j
  have bad : ¬ (zS B len stop j = 2 ∧ 0 ≤ pN B len stop j ∧ pN B len stop j ≤ 6) → ∀ cA1, FlA cA cA1 1 (pP B len stop j) → TM (d2 + 8) 184 [aR 188] (G, cB) (fun r2 y2 => LnP G cA0 cB0 B len most stop j (some (aI 0)) (G, cA1) r2 y2) := by
    intro hn cA1 f1
    refine r_disp hG hW h.2.2.1 (fun q1 q2 => absurd ⟨q1, by omega, by omega⟩ hn) (fun q1 q2 => absurd ⟨q1, by omega, by omega⟩ hn) (fun q1 q2 => absurd ⟨q1, by omega, by omega⟩ hn) (fun q1 q2 => absurd ⟨q1, by omega, by omega⟩ hn) (fun q1 q2 => absurd ⟨q1, by omega, by omega⟩ hn) (fun q1 q2 => absurd ⟨q1, by omega, by omega⟩ hn) (fun q1 q2 => absurd ⟨q1, by omega, by omega⟩ hn) (fun _ cB1 g1 => ?_)
    exact Ln_f hW h.2.2.2.1 h.2.2.2.2.1 f1 g1 (by omega)
  refine b60_0 hG TM_eqo (e1) (by intros; omega) (e3) (by intros; omega) ?_ ?_ ?_ ?_ ?_ ?_ ?_ ?_ ?_
  · intro q1 q2
    refine c_ref hG h.1 (fun cA1 f1 => ?_)
    refine b60_111 hG (Or.inl rfl) ?_
    exact bad (by omega) cA1 f1
  · intro q1 q2
    refine TM_Qm (fun r1 y1 x => ?_) (ln_kind (d1 := d1) (d2 := d2) hG hW h q1)
    refine sw (r_disp hG hW h.2.2.1 (fun _ _ => ?_) (fun _ z => by omega) (fun _ z => by omega) (fun _ z => by omega) (fun _ z => by omega) (fun _ z => by omega) (fun _ z => by omega) (fun z => by omega))
    refine T_Qm (fun r2 y2 hx => ?_) x
    obtain ⟨u, cA2, hu, rfl, rfl⟩ := Ln_r hx
    refine b60_72 hG (hu) ?_
    exact hx
  · intro q1 q2
    refine TM_Qm (fun r1 y1 x => ?_) (ln_meets (d1 := d1) (d2 := d2) hG hW h q1)
    refine sw (r_disp hG hW h.2.2.1 (fun _ z => by omega) (fun _ _ => ?_) (fun _ z => by omega) (fun _ z => by omega) (fun _ z => by omega) (fun _ z => by omega) (fun _ z => by omega) (fun z => by omega))
    refine T_Qm (fun r2 y2 hx => ?_) x
    obtain ⟨u, cA2, hu, rfl, rfl⟩ := Ln_r hx
    refine b60_77 hG (hu) ?_
    exact hx
  · intro q1 q2
    refine TM_Qm (fun r1 y1 x => ?_) (ln_soul (d1 := d1) (d2 := d2) hG hW h q1)
    refine sw (r_disp hG hW h.2.2.1 (fun _ z => by omega) (fun _ z => by omega) (fun _ _ => ?_) (fun _ z => by omega) (fun _ z => by omega) (fun _ z => by omega) (fun _ z => by omega) (fun z => by omega))
    refine T_Qm (fun r2 y2 hx => ?_) x
    obtain ⟨u, cA2, hu, rfl, rfl⟩ := Ln_r hx
    refine b60_82 hG (hu) ?_
    exact hx
  · intro q1 q2
    refine TM_Qm (fun r1 y1 x => ?_) (ln_only (d1 := d1) (d2 := d2) hG hW h q1)
    refine sw (r_disp hG hW h.2.2.1 (fun _ z => by omega) (fun _ z => by omega) (fun _ z => by omega) (fun _ _ => ?_) (fun _ z => by omega) (fun _ z => by omega) (fun _ z => by omega) (fun z => by omega))
    refine T_Qm (fun r2 y2 hx => ?_) x
    obtain ⟨u, cA2, hu, rfl, rfl⟩ := Ln_r hx
    refine b60_87 hG (hu) ?_
    exact hx
  · intro q1 q2
    refine TM_Qm (fun r1 y1 x => ?_) (ln_wish (d1 := d1) (d2 := d2) hG hW h q1)
    refine sw (r_disp hG hW h.2.2.1 (fun _ z => by omega) (fun _ z => by omega) (fun _ z => by omega) (fun _ z => by omega) (fun _ _ => ?_) (fun _ z => by omega) (fun _ z => by omega) (fun z => by omega))
    refine T_Qm (fun r2 y2 hx => ?_) x
    obtain ⟨u, cA2, hu, rfl, rfl⟩ := Ln_r hx
    refine b60_92 hG (hu) ?_
    exact hx
  · intro q1 q2
    refine TM_Qm (fun r1 y1 x => ?_) (ln_debt (d1 := d1) (d2 := d2) hG hW h q1)
    refine sw (r_disp hG hW h.2.2.1 (fun _ z => by omega) (fun _ z => by omega) (fun _ z => by omega) (fun _ z => by omega) (fun _ z => by omega) (fun _ _ => ?_) (fun _ z => by omega) (fun z => by omega))
    refine T_Qm (fun r2 y2 hx => ?_) x
    obtain ⟨u, cA2, hu, rfl, rfl⟩ := Ln_r hx
    refine b60_97 hG (hu) ?_
    exact hx
  · intro q1 q2
    refine TM_Qm (fun r1 y1 x => ?_) (ln_grows (d1 := d1) (d2 := d2) hG hW h q1)
    refine sw (r_disp hG hW h.2.2.1 (fun _ z => by omega) (fun _ z => by omega) (fun _ z => by omega) (fun _ z => by omega) (fun _ z => by omega) (fun _ z => by omega) (fun _ _ => ?_) (fun z => by omega))
    refine T_Qm (fun r2 y2 hx => ?_) x
    obtain ⟨u, cA2, hu, rfl, rfl⟩ := Ln_r hx
    refine b60_102 hG (hu) ?_
    exact hx
  · intro q1
    refine c_ref hG h.1 (fun cA1 f1 => ?_)
    refine b60_19 hG (Or.inl rfl) ?_
    exact bad (by omega) cA1 f1
def FBx (cB0 cB : CC) : Prop := (∀ r, ¬ r = 188 → ¬ r = 191 → ¬ r = 193 → cB r = cB0 r) ∧ (∀ i, 0 ≤ i → i < 14 → cB 193 i = cB0 193 i) ∧ ∀ i, (i = 2 ∨ 21 ≤ i) → cB 188 i = cB0 188 i
theorem FBx_o (h : FBx cB0 cB) (f : FBo cB cB') : FBx cB0 cB' := ⟨fun r h1 h2 h3 => (f.1 r h1 h2 h3).trans (h.1 r h1 h2 h3), fun i h1 h2 => (f.2.1 i h1 h2).trans (h.2.1 i h1 h2), fun i h1 => (f.2.2 i (by omega)).trans (h.2.2 i h1)⟩
theorem FAo_tr (h : FAo cA0 cA) (f : FAo cA cA') : FAo cA0 cA' := ⟨fun r h1 h2 h3 => (f.1 r h1 h2 h3).trans (h.1 r h1 h2 h3), fun i h1 => (f.2 i h1).trans (h.2 i h1)⟩
theorem FAo_refl : FAo cA cA := ⟨fun _ _ _ _ => rfl, fun _ _ => rfl⟩
theorem FBo_refl : FBo cB cB := ⟨fun _ _ _ _ => rfl, fun _ _ _ => rfl, fun _ _ => rfl⟩
theorem StO_rb (h : StO cA0 cB0 B len most stop j cA cB) : StO cA cB B len most stop j cA cB := ⟨h.1, h.2.1, h.2.2.1, FAo_refl, FBo_refl, h.2.2.2.2.2.1, StO_194 h⟩
theorem StO_19 (h : StO cA0 cB0 B len most stop j cA cB) : StO cA (q_up cB 188 19 v) B len most stop j cA (q_up cB 188 19 v) := by
  refine ⟨h.1, ⟨h.2.1.1, h.2.1.2.1, (up_n (by omega)).trans h.2.1.2.2⟩, RT_up h.2.2.1 (by omega), FAo_refl, FBo_refl, DrR_nm h.2.2.2.2.2.1 (up_r (by omega)) (fun i _ => by rw [up_r (by omega)]) (up_n (by omega)), fun i h1 h2 => ?_⟩
  rw [up_r (by omega)]
  exact StO_194 h i h1 h2
theorem ln_loop (hG : Shp G) (hW : Wt B len most stop) (hm : most = 900) (zf : ∀ cA cB, FAo cA0 cA → FBx cB0 cB → FlX cA cB → P (some (aI (-1))) (G, cA) (some (aI ((-1) - cB 188 16))) (G, cB)) (zs : ∀ (v : Int) (j : Nat) cA cB, FAo cA0 cA → FBx cB0 cB → StO cA cB B len most stop j cA cB → cB 188 19 = v → 0 ≤ v → v ≤ 1000 → ¬ most < len → T (d1 + 10) 59 43 [some (aR 119), some (aI v)] [aI 1] (G, cA) (QM (fun r1 y1 => T (d2 + 10) 185 98 [some (aR 188), some (aI 0)] [] (G, cB) (QM (fun r2 y2 => P r1 y1 r2 y2))))) : ∀ (n : Nat) (j : Nat) (v : Int) (cA cB : CC), 941 - PP B len stop j ≤ n → StO cA cB B len most stop j cA cB → FAo cA0 cA → FBx cB0 cB → cB 188 19 = v → 0 ≤ v → 2 * v ≤ PP B len stop j → PP B len stop j ≤ 940 → T (d1 + 10) 59 19 [some (aR 119), some (aI v)] [] (G, cA) (QM (fun r1 y1 => T (d2 + 10) 185 53 [some (aR 188), none] [] (G, cB) (QM (fun r2 y2 => P r1 y1 r2 y2)))) := by
  intro n
  induction n with
  | zero =>
    intro j v cA cB g1 S fA fB e19 v0 v1 g2
    omega
  | succ n ih =>
    intro j v cA cB g1 S fA fB e19 v0 v1 g2
    obtain ⟨t1, t2, t3, t4⟩ := TA_e S.1
    have b := p_b hW j
    have tk := RT_tok hW S.2.2.1
    have r11 := RT_11 S.2.2.1
    refine b59_19 hG (by intros; omega) ?_ (t1) (by intros; omega) ?_ ?_
    · intro q; omega
    · intro q1 q2
      have nz : ¬ cB 188 11 = 0 := fun x => q2 (tk.1.mpr x).1
      clear tk
      refine TM_Qm (fun r1 y1 x => ?_) (ln_all (d1 := d1) (d2 := d2 + 1) hG hW S q2)
      refine sw ?_
      refine b185_53 hG rfl (by intros; omega) ?_ ?_
      · intro z; omega
      · intro z
        refine TM_Qm (fun r2 y2 hx => ?_) x
        obtain ⟨cA', cB', rfl, rfl, f1, f2, ⟨rfl, rfl, hf⟩ | ⟨rfl, rfl, j', S', hj⟩⟩ := hx
        · have hb := hf.2.2.2
          refine b185_64 hG (by intros; omega) rfl ?_ ?_
          · intro z1
            refine b59_61 hG (by intros; omega) ?_ ?_
            · intro z2
              exact zf cA' cB' (FAo_tr fA f1) (FBx_o fB f2) hf
            · intro z2; omega
          · intro z1; omega
        · have fA' := FAo_tr fA f1
          have fB' := FBx_o fB f2
          have e19' : cB' 188 19 = v := by rw [f2.2.2 19 (by omega)]; exact e19
          have S'' := StO_rb S'
          clear S S' f1 f2
          refine b185_64 hG (by intros; omega) rfl ?_ ?_
          · intro z1; omega
          · intro z1
            by_cases hc : zS B len stop j' = 4 ∧ pN B len stop j' = 59
            · have hpj := PP_up hW j' (by rw [hc.1]; omega)
              have hl := hW.1.2
              refine r_sign hG hW S''.2.2.1 (by omega) (fun _ cB2 g2 u2 => ?_) (fun x => absurd hc x)
              have e19'' : cB2 188 19 = v := (g2.2 19 (by omega) (by omega) (by omega) (by omega) (by omega) (by omega)).trans e19'
              refine b185_73 hG (by intros; omega) (e19'') ?_ rfl ?_
              · intro z2
                refine sw ?_
                refine b59_61 hG (by intros; omega) ?_ ?_
                · intro z3; omega
                · intro z3
                  refine c_takeSign hG hW S''.1 (by omega) (fun _ cA2 f2 t2 => ?_) (fun x => absurd hc x)
                  have S2 := StO_go S'' f2 t2 (FrG_N g2) u2
                  refine b59_73 hG (by intros; omega) ?_ ?_
                  · intro z4
                    refine ih (j' + 1) (v + 1) _ _ (by clear S'' S2; omega) (StO_19 S2) (FAo_V fA' f2) ?_ up_e (by omega) (by clear S'' S2; omega) (by clear S'' S2; omega)
                    have := FBx_o fB' S2.2.2.2.2.1
                    exact ⟨fun r h1 h2 h3 => (up_r (by omega)).trans (this.1 r h1 h2 h3), fun i h1 h2 => (up_n (by omega)).trans (this.2.1 i h1 h2), fun i h1 => (up_n (by omega)).trans (this.2.2 i h1)⟩
                  · intro z4; omega
              · intro z2; omega
            · refine r_sign hG hW S''.2.2.1 (by omega) (fun x => absurd x hc) (fun _ cB2 g2 => ?_)
              have hb := (p_b hW j').2.2.2.2.2
              have h16 := g2.2.2.2
              refine b185_73 hG (by intros; omega) rfl ?_ rfl ?_
              · intro z2; omega
              · intro z2
                refine b59_61 hG (by intros; omega) ?_ ?_
                · intro z3; omega
                · intro z3
                  refine c_takeSign hG hW S''.1 (by omega) (fun x => absurd x hc) (fun _ cA2 f2 => ?_)
                  refine b59_73 hG (by intros; omega) ?_ ?_
                  · intro z4; omega
                  · intro z4
                    exact zf cA2 cB2 (FAo_F fA' f2) (FBx_o fB' (FBo_F FBo_refl g2)) (FlX_mk hW f2 g2 (by omega))
    · intro q1 q2
      by_cases hml : most < len
      · have nz : ¬ cB 188 11 = 0 := fun x => (tk.1.mpr x).2 hml
        clear tk
        refine c_endsHere hG hW S.1 S.2.1.1 (fun _ x => absurd hml x) (fun _ cA1 f1 => ?_)
        refine b59_43 hG TM_eqo (by intros; omega) ?_ ?_
        · intro z; omega
        · intro z
          refine b185_53 hG rfl (by intros; omega) ?_ ?_
          · intro z1; omega
          · intro z1
            refine r_disp hG hW S.2.2.1 (fun z _ => by omega) (fun z _ => by omega) (fun z _ => by omega) (fun z _ => by omega) (fun z _ => by omega) (fun z _ => by omega) (fun z _ => by omega) (fun _ cB1 g1 => ?_)
            have hb := (p_b hW j).2.2.2.2.2
            have h16 := g1.2.2.2
            refine b185_64 hG (by intros; omega) rfl ?_ ?_
            · intro z2
              exact zf cA1 cB1 (FAo_F fA f1) (FBx_o fB (FBo_F FBo_refl g1)) (FlX_mk hW f1 g1 (by omega))
            · intro z2; omega
      · have nz : cB 188 11 = 0 := tk.1.mp ⟨q2, hml⟩
        clear tk
        refine c_endsHere hG hW S.1 S.2.1.1 (fun _ _ => ?_) (fun x => absurd ⟨q2, hml⟩ x)
        refine sw ?_
        refine b185_53 hG (nz) (by intros; omega) ?_ ?_
        · intro z1
          exact sw (zs v j cA cB fA fB S e19 v0 (by omega) hml)
        · intro z1; omega
end SPol
