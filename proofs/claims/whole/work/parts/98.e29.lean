section SPoi
variable {d d1 d2 r n0 : Nat} {G : GG} {c c' cA cB cA0 cB0 cA' cB' cA1 cB1 : CC} {Q : Option AV → HH → Prop} {v v1 v2 N k p len most stop a b w w' n to x y z m M s : Int} {j i' : Nat} {B f fS : Int → Int}
theorem o64_a : ∀ v : Fin 64, ∀ k : Fin 6, ¬ bt (v.val : Int) (k.val : Int) = 1 → 0 ≤ q_or v.val (q_shl 1 k.val) ∧ q_or v.val (q_shl 1 k.val) < 64 ∧ ¬ q_or v.val (q_shl 1 k.val) = 0 ∧ sumI (bt (q_or v.val (q_shl 1 k.val))) 6 = sumI (bt v.val) 6 + 1 := by decide +kernel
theorem o64_b : ∀ v : Fin 64, sumI (bt (v.val : Int)) 6 ≤ 6 := by decide +kernel
theorem o64_c : ∀ s : Fin 8, 0 ≤ q_shl 1 s.val ∧ q_shl 1 s.val < 256 ∧ ∀ i : Fin 8, bt (q_shl 1 s.val) i.val = if i.val = s.val then 1 else 0 := by decide +kernel
theorem o64 (h : 0 ≤ M ∧ M < 64) (hk : 0 ≤ k ∧ k < 6) (hb : ¬ bt M k = 1) : 0 ≤ q_or M (q_shl 1 k) ∧ q_or M (q_shl 1 k) < 64 ∧ ¬ q_or M (q_shl 1 k) = 0 ∧ sumI (bt (q_or M (q_shl 1 k))) 6 = sumI (bt M) 6 + 1 := by
  have := o64_a ⟨M.toNat, by omega⟩ ⟨k.toNat, by omega⟩
  simp only [show ((M.toNat : Nat) : Int) = M by omega, show ((k.toNat : Nat) : Int) = k by omega] at this
  exact this hb
theorem o64n (h : 0 ≤ M ∧ M < 64) : sumI (bt M) 6 ≤ 6 := by
  have := o64_b ⟨M.toNat, by omega⟩
  simp only [show ((M.toNat : Nat) : Int) = M by omega] at this
  exact this
theorem o256 (h : 0 ≤ x ∧ x < 256) (hs : 0 ≤ s ∧ s < 8) : (0 ≤ q_or x (q_shl 1 s) ∧ q_or x (q_shl 1 s) < 256) ∧ ∀ i, 0 ≤ i → i < 8 → (bt (q_or x (q_shl 1 s)) i = 1 ↔ (i = s ∨ bt x i = 1)) := by
  have h1 := o64_c ⟨s.toNat, by omega⟩
  simp only [show ((s.toNat : Nat) : Int) = s by omega] at h1
  refine ⟨or_le h ⟨h1.1, h1.2.1⟩, fun i h3 h4 => ?_⟩
  have h2 := h1.2.2 ⟨i.toNat, by omega⟩
  simp only [show ((i.toNat : Nat) : Int) = i by omega] at h2
  rw [bt_or ⟨h3, h4⟩, h2]
  by_cases hi : i = s
  · rw [if_pos (by omega : i.toNat = s.toNat)]
    simp [hi]
  · rw [if_neg (by omega : ¬ i.toNat = s.toNat)]
    by_cases hx : bt x i = 1
    · simp [hx]
    · simp [hx, hi]
theorem r_bitO (hG : Shp G) (hz : Q (some (aI (if bt x k = 1 then 1 else 0))) (G, c)) : TM d 165 [aI x, aI k] (G, c) Q := by
  by_cases h : bt x k = 1
  · rw [if_pos h] at hz
    refine b165_0 hG (and_I32) ?_ ?_
    · intro q; exact absurd h q
    · intro q; exact hz
  · rw [if_neg h] at hz
    refine b165_0 hG (and_I32) ?_ ?_
    · intro q; exact hz
    · intro q; exact absurd q h
theorem D_only (D : DrR cA cB) (hs : 0 ≤ s ∧ s < cB 191 1) (hM : 0 ≤ M ∧ M < 64) (hM0 : ¬ M = 0) (eA : ∀ r, 18 ≤ r → r ≤ 26 → ¬ r = 24 → cA' r = cA r) (eA1 : cA' 24 = q_u1 (cA 24) s M) (e1 : cB' 191 = q_u1 (q_u1 (cB 191) 167 (q_or (cB 191 167) (q_shl 1 s))) (51 + s) M) (e2 : cB' 193 = cB 193) (e3 : cB' 188 20 = cB 188 20) : DrR cA' cB' := by
  obtain ⟨a1, a2, a3, a4, a5, a6, a7, a8, a9, a10⟩ := D
  have ho := o256 (x := cB 191 167) (s := s) a6 (by omega)
  have rd : ∀ i, ¬ i = 167 → ¬ i = 51 + s → cB' 191 i = cB 191 i := fun i h1 h2 => by rw [e1, u1_n h2, u1_n h1]
  have r167 : cB' 191 167 = q_or (cB 191 167) (q_shl 1 s) := by rw [e1, u1_n (by omega), u1_e]
  have r51 : cB' 191 (51 + s) = M := by rw [e1, u1_e]
  clear e1
  unfold DrR
  rw [e2, e3, eA1, r167, rd 0 (by omega) (by omega), rd 1 (by omega) (by omega), rd 2 (by omega) (by omega), eA 18 (by omega) (by omega) (by omega), eA 19 (by omega) (by omega) (by omega), eA 20 (by omega) (by omega) (by omega), eA 21 (by omega) (by omega) (by omega), eA 22 (by omega) (by omega) (by omega), eA 23 (by omega) (by omega) (by omega), eA 25 (by omega) (by omega) (by omega), eA 26 (by omega) (by omega) (by omega)]
  refine ⟨a1, a2, fun i h1 h2 => ?_, fun i h1 h2 => ?_, fun i h1 h2 => ?_, ho.1, fun i h1 h2 => ?_, fun x y h1 h2 h3 h4 => ?_, fun i h1 h2 => ?_, fun x y h1 h2 h3 h4 h5 => ?_⟩
  · rw [rd (3 + i) (by omega) (by omega), rd (9 + i) (by omega) (by omega)]; exact a3 i h1 h2
  · rw [rd (59 + i) (by omega) (by omega)]
    refine ⟨(a4 i h1 h2).1, ?_, (a4 i h1 h2).2.2⟩
    by_cases hi : i = s
    · rw [hi, r51, u1_e]
    · rw [rd (51 + i) (by omega) (by omega), u1_n (by omega)]; exact (a4 i h1 h2).2.1
  · rw [rd (59 + i) (by omega) (by omega)]
    obtain ⟨g1, g2, g3, g4⟩ := a5 i h1 h2
    have hoi := ho.2 i h1 h2
    by_cases hi : i = s
    · subst hi
      rw [r51]
      exact ⟨hM, g2, ⟨fun _ => hM0, fun _ => hoi.mpr (Or.inl rfl)⟩, fun h => by omega⟩
    · rw [rd (51 + i) (by omega) (by omega)]
      refine ⟨g1, g2, ?_, g4⟩
      rw [hoi, ← g3]
      exact ⟨fun h => h.resolve_left hi, Or.inr⟩
  · rw [rd (131 + i) (by omega) (by omega), rd (15 + i) (by omega) (by omega)]; exact a7 i h1 h2
  · rw [rd (131 + 6 * x + y) (by omega) (by omega), rd (15 + 6 * x + y) (by omega) (by omega), rd (131 + 6 * y + x) (by omega) (by omega), rd (15 + 6 * y + x) (by omega) (by omega)]
    exact a8 x y h1 h2 h3 h4
  · rw [rd (67 + i) (by omega) (by omega)]; exact a9 i h1 h2
  · rw [rd (67 + 8 * x + y) (by omega) (by omega)]; exact a10 x y h1 h2 h3 h4 h5
def OnS (cA cB cA2 cB2 : CC) (s M : Int) : Prop := (∀ r, ¬ r = 2 → ¬ r = 24 → cA r = cA2 r) ∧ cA 24 = q_u1 (cA2 24) s M ∧ (cA 2 9 = cA2 2 9 ∧ cA 2 14 = cA2 2 14 ∧ cB 188 15 = cB2 188 15) ∧ (∀ r, ¬ r = 188 → ¬ r = 191 → cB r = cB2 r) ∧ cB 191 = q_u1 (q_u1 (cB2 191) 167 (q_or (cB2 191 167) (q_shl 1 s))) (51 + s) M ∧ cB 188 20 = cB2 188 20
theorem ln_onlyL (hG : Shp G) (hW : Wt B len most stop) {cA2 cB2 : CC} {j0 : Nat} (S2 : StO cA0 cB0 B len most stop j0 cA2 cB2) (hs : 0 ≤ s ∧ s < cB2 191 1) (hp : PP B len stop i' + 1 ≤ PP B len stop j0) : ∀ (n : Nat) (t M : Int) (j : Nat) (cA cB : CC), t + n = 7 → 0 ≤ t → 0 ≤ M → M < 64 → sumI (bt M) 6 = t → (t = 0 ↔ M = 0) → OnS cA cB cA2 cB2 s M → TA cA B len stop j → RT cB B len most stop j → FAo cA0 cA → FBo cB0 cB → PP B len stop j0 ≤ PP B len stop j → (1 ≤ t → ¬ (zS B len stop j = 4 ∧ pN B len stop j = 59)) → T (d1 + 8) 64 66 [some (aR 119), some (aI s), some (aI t), none] [] (G, cA) (QM (fun r1 y1 => T (d2 + 8) 184 392 [some (aR 188), some (aI s), none] [] (G, cB) (QM (fun r2 y2 => LnP G cA0 cB0 B len most stop i' r1 y1 r2 y2)))) := by
  intro n
  induction n with
  | zero =>
    intro t M j cA cB g1 g2 g3 g4 g5
    have := o64n (M := M) ⟨g3, g4⟩
    omega
  | succ n ih =>
    intro t M j cA cB g1 g2 g3 g4 g5 g6 hO tA tB fA fB hj hns
    have ih := ih (t + 1)
    obtain ⟨o1, o2, o3, o4, o5, o6⟩ := hO
    have hb := S2.2.2.2.2.2.1.1
    have aK := S2.2.2.2.2.2.1.2.2.1
    have e18 : cA 18 0 = cB2 191 0 := by rw [o1 18 (by omega) (by omega)]; exact hb.1
    have e51 : cB 191 (51 + s) = M := by rw [o5, u1_e]
    have e24 : cA 24 s = M := by rw [o2, u1_e]
    have e0 : cB 191 0 = cB2 191 0 := by rw [o5, u1_n (by omega), u1_n (by omega)]
    have hv : ∀ i, 0 ≤ i → i < 20 → cB 194 i = rsvF i := fun i h1 h2 => by rw [o4 194 (by omega) (by omega)]; exact StO_194 S2 i h1 h2
    have hr : ∀ i, 0 ≤ i → i < cB2 191 0 → NmR (cA2 19 i) (cB 193 (14 + i)) := fun i h1 h2 => by rw [o4 193 (by omega) (by omega)]; exact (aK i h1 h2).1
    have hc19 : ∀ i, 0 ≤ i → i < cB2 191 0 → cA 19 i = cA2 19 i ∧ I64 (cA2 19 i) := fun i h1 h2 => ⟨by rw [o1 19 (by omega) (by omega)], NmR_64 (aK i h1 h2).1⟩
    have pb := pF_b (B := B) (len := len) (stop := stop) (j := j) (f := cA2 19) hb.2.2.1
    have step : ∀ (K : Option AV → HH → Prop), (TM (d2 + 7) 182 [aR 188] (G, cB) (fun r h' => T (d2 + 8) 184 417 [some (aR 188), some (aI s), none] (r.toList ++ []) h' (QM K))) → T (d2 + 8) 184 392 [some (aR 188), some (aI s), none] [] (G, cB) (QM K) := by
      intro K hk
      refine b184_392 hG (by intros; omega) (by intros; omega) (e51) (by intros; omega) ?_ ?_
      · intro z; exact hk
      · intro z
        refine r_isSgn hG hW tB (by omega) ?_
        rw [if_neg (hns (by omega))]
        refine b184_410 hG (by intros; omega) ?_ ?_
        · intro z2; omega
        · intro z2; exact hk
    refine sw (step _ ?_)
    refine b182_0 hG TM_eqo (e0) ?_
    by_cases hc : zS B len stop j = 1 ∧ ¬ pF B len stop j (cA2 19) (cB2 191 0) = -1
    · refine r_looksAt hG hW tB hv (f := cA2 19) (by omega) hr (fun _ _ => ?_) (fun x => absurd hc x)
      have hpj := PP_up hW j (by rw [hc.1]; omega)
      refine b182_12 hG (Or.inr rfl) ?_
      obtain ⟨k, hk⟩ : ∃ k, k = pF B len stop j (cA2 19) (cB2 191 0) := ⟨_, rfl⟩
      refine sw ?_
      refine b64_66 hG TM_eqo (by intros; omega) ?_ (e18) ?_
      · intro q1; omega
      · intro q1
        refine c_nameHere hG hW tA (f := cA2 19) (n0 := 6) (sh_ok hG (by decide +kernel)) (sh_ln hG (by decide +kernel)) (by omega) hb.2.2.1 (by omega) hc19 (fun _ _ => ?_) (fun x => absurd hc x)
        rw [← hk] at pb hc ⊢
        have b0 : 0 ≤ k ∧ k < 6 := by omega
        clear hk pb
        by_cases hbt : bt M k = 1
        · refine b64_93 hG (by intros; omega) ?_ ?_
          · intro q2
            refine b72_0 hG (ru18) (by intros; omega) (by intros; omega) (e24) (and_I32) ?_ ?_
            · intro q3; exact absurd hbt q3
            · intro q3
              refine b64_110 hG TM_eqo (by intros; omega) (by intros; omega) (by intros; omega) rfl ?_ ?_
              · intro q4; omega
              · intro q4
                refine c_ref hG tA (fun cA3 f3 => ?_)
                refine b64_121 hG (Or.inl rfl) ?_
                refine b184_417 hG (by intros; omega) (by intros; omega) (by intros; omega) ((up_n (by omega)).trans e51) (up_e) ?_ ?_
                · intro z1
                  refine r_bitO hG ?_
                  rw [if_pos hbt]
                  refine b184_438 hG TM_eqo (by intros; omega) (by intros; omega) (by intros; omega) rfl rfl ?_ ?_
                  · intro z2; omega
                  · intro z2
                    refine r_bad hG (RT_up tB (by omega)) (fun cB3 g3 => ?_)
                    refine b184_446 hG (Or.inl rfl) ?_
                    exact Ln_f hW fA (FBo_T fB (by omega)) f3 g3 (by omega)
                · intro z1; omega
          · intro q2; omega
        · obtain ⟨m1, m2, m3, m4⟩ := o64 (M := M) (k := k) ⟨g3, g4⟩ b0 hbt
          have nx := ih (q_or M (q_shl 1 k)) (j + 1)
          have o5' : ∀ w, q_u1 (cB 191) (51 + s) w = q_u1 (q_u1 (cB2 191) 167 (q_or (cB2 191 167) (q_shl 1 s))) (51 + s) w := fun w => by
            rw [o5]; funext i
            by_cases hi : i = 51 + s
            · rw [hi, u1_e, u1_e]
            · rw [u1_n hi, u1_n hi, u1_n hi]
          have o2' : ∀ w, q_u1 (cA 24) s w = q_u1 (cA2 24) s w := fun w => by
            rw [o2]; funext i
            by_cases hi : i = s
            · rw [hi, u1_e, u1_e]
            · rw [u1_n hi, u1_n hi, u1_n hi]
          refine b64_93 hG (by intros; omega) ?_ ?_
          · intro q2
            refine b72_0 hG (ru18) (by intros; omega) (by intros; omega) (e24) (and_I32) ?_ ?_
            · intro q3
              refine b64_110 hG TM_eqo (by intros; omega) (by intros; omega) (by intros; omega) (e24) ?_ ?_
              · intro q4
                refine c_advance hG (TA_fr tA (up_r (by omega)) (up_r (by omega)) (up_r (by omega)) (up_r (by omega)) (up_r (by omega))) (fun cA3 f3 t3 => sw ?_)
                refine b184_417 hG (by intros; omega) (by intros; omega) (by intros; omega) ((up_n (by omega)).trans e51) (up_e) ?_ ?_
                · intro z1
                  refine r_bitO hG ?_
                  rw [if_neg hbt]
                  refine b184_438 hG TM_eqo (by intros; omega) (by intros; omega) (by intros; omega) ((up_n (by omega)).trans e51) (up_e) ?_ ?_
                  · intro z2
                    refine r_advance hG (RT_row (RT_up tB (by omega)) (by omega) (by omega)) hW.1 hW.2.1 hW.2.2.1 (fun cB3 g3' u3 => ?_)
                    refine b184_469 hG ?_
                    refine sw ?_
                    have fA3 := FAo_V (FAo_U (v := q_or M (q_shl 1 k)) (i := s) (r := 24) fA (by omega)) f3
                    have fB3 := FBo_N (FBo_U (v := q_or M (q_shl 1 k)) (i := 51 + s) (FBo_T (v := k) (i := 18) fB (by omega))) g3'
                    have hO3 : OnS cA3 cB3 cA2 cB2 s (q_or M (q_shl 1 k)) := by
                      refine ⟨fun r h1 h2 => by rw [f3.1 r h1, up_r h2]; exact o1 r h1 h2, by rw [f3.1 24 (by omega), up_er, o2'], ⟨by rw [f3.2 9 (by omega) (by omega) (by omega) (by omega) (by omega), up_n (by omega)]; exact o3.1, by rw [f3.2 14 (by omega) (by omega) (by omega) (by omega) (by omega), up_n (by omega)]; exact o3.2.1, by rw [g3'.2 15 (by omega) (by omega) (by omega) (by omega) (by omega) (by omega), up_n (by omega), up_n (by omega)]; exact o3.2.2⟩, fun r h1 h2 => by rw [g3'.1 r h1, up_r h2, up_r h1]; exact o4 r h1 h2, by rw [g3'.1 191 (by omega), up_er, up_r (by omega), o5'], by rw [g3'.2 20 (by omega) (by omega) (by omega) (by omega) (by omega) (by omega), up_n (by omega), up_n (by omega)]; exact o6⟩
                    refine b64_144 hG ?_
                    refine c_isSgn hG hW t3 (by omega) ?_
                    by_cases hsg : zS B len stop (j + 1) = 4 ∧ pN B len stop (j + 1) = 59
                    · rw [if_pos hsg]
                      refine b64_153 hG (by intros; omega) ?_ ?_
                      · intro q5; omega
                      · intro q5
                        have e51' : cB3 191 (51 + s) = q_or M (q_shl 1 k) := by rw [hO3.2.2.2.2.1, u1_e]
                        refine b184_392 hG (by intros; omega) (by intros; omega) (e51') (by intros; omega) ?_ ?_
                        · intro z; exact absurd z m3
                        · intro z
                          refine r_isSgn hG hW u3 (by omega) ?_
                          rw [if_pos hsg]
                          refine b184_410 hG (by intros; omega) ?_ ?_
                          · intro z3
                            obtain ⟨p1, p2, p3, p4, p5, p6⟩ := hO3
                            refine Ln_t (i := j + 1) ⟨t3, ⟨by rw [p3.1]; exact S2.2.1.1, by rw [p3.2.1]; exact S2.2.1.2.1, by rw [p3.2.2]; exact S2.2.1.2.2⟩, u3, fA3, fB3, D_only S2.2.2.2.2.2.1 hs ⟨m1, m2⟩ m3 (fun r h1 h2 h3 => p1 r (by omega) h3) p2 p5 (p4 193 (by omega) (by omega)) p6, S2.2.2.2.2.2.2⟩ ?_
                            clear S2
                            omega
                          · intro z3; omega
                    · rw [if_neg hsg]
                      refine b64_153 hG (by intros; omega) ?_ ?_
                      · intro q5
                        exact nx cA3 cB3 (by omega) (by omega) m1 m2 (by omega) (by omega) hO3 t3 u3 fA3 fB3 (by omega) (fun _ => hsg)
                      · intro q5; omega
                  · intro z2; omega
                · intro z1; omega
              · intro q4; omega
            · intro q3; exact absurd q3 hbt
          · intro q2; omega
    · refine r_looksAt hG hW tB hv (f := cA2 19) (by omega) hr (fun x1 x2 => absurd ⟨x1, x2⟩ hc) (fun _ cB3 g3 => ?_)
      refine b182_12 hG (Or.inl rfl) ?_
      refine b184_417 hG (by intros; omega) (by intros; omega) (by intros; omega) rfl rfl ?_ ?_
      · intro z1; omega
      · intro z1
        refine b64_66 hG TM_eqo (by intros; omega) ?_ (e18) ?_
        · intro q1; omega
        · intro q1
          refine c_nameHere hG hW tA (f := cA2 19) (n0 := 6) (sh_ok hG (by decide +kernel)) (sh_ln hG (by decide +kernel)) (by omega) hb.2.2.1 (by omega) hc19 (fun x1 x2 => absurd ⟨x1, x2⟩ hc) (fun _ cA3 f3 => ?_)
          refine b64_93 hG (by intros; omega) ?_ ?_
          · intro q2; omega
          · intro q2
            exact Ln_f hW fA fB f3 g3 fM_b
theorem sum6_0 : sumI (bt 0) 6 = 0 := by decide +kernel
theorem ln_only (hG : Shp G) (hW : Wt B len most stop) (h : StO cA0 cB0 B len most stop j cA cB) (h2 : zS B len stop j = 2) : TM (d1 + 8) 64 [aR 119] (G, cA) (fun r1 y1 => T (d2 + 8) 184 332 [some (aR 188), none, none] [aI 1] (G, cB) (QM (fun r2 y2 => LnP G cA0 cB0 B len most stop j r1 y1 r2 y2))) := by
  have hp := PP_up hW j (by omega)
  refine b64_0 hG ?_
  refine c_advance hG h.1 (fun cA1 f1 t1 => sw ?_)
  refine b184_332 hG (by intros; omega) ?_ ?_
  · intro z; omega
  · intro z
    refine r_advance hG h.2.2.1 hW.1 hW.2.1 hW.2.2.1 (fun cB1 g1 u1 => ?_)
    have S1 := StO_go h f1 t1 (FrG_N g1) u1
    clear f1 g1 h
    refine b184_339 hG ?_
    have hb := S1.2.2.2.2.2.1.1
    have pb := pF_b (B := B) (len := len) (stop := stop) (j := j + 1) (f := cA1 20) hb.2.2.2.2.1
    by_cases hc : zS B len stop (j + 1) = 1 ∧ ¬ pF B len stop (j + 1) (cA1 20) (cB1 191 1) = -1
    · refine r_sLook hG hW S1 (fun _ _ => sw ?_) (fun x => absurd hc x)
      refine b64_7 hG (hb.2.1) ?_
      refine c_sName hG hW S1 (fun _ _ => ?_) (fun x => absurd hc x)
      have hp2 := PP_up hW (j + 1) (by rw [hc.1]; omega)
      have a4 := S1.2.2.2.2.2.1.2.2.2.1 (pF B len stop (j + 1) (cA1 20) (cB1 191 1)) (by omega) (by omega)
      have a5 := S1.2.2.2.2.2.1.2.2.2.2.1 (pF B len stop (j + 1) (cA1 20) (cB1 191 1)) (by omega) (by omega)
      obtain ⟨s, hs⟩ : ∃ s, s = pF B len stop (j + 1) (cA1 20) (cB1 191 1) := ⟨_, rfl⟩
      rw [← hs] at a4 a5 pb hc ⊢
      have b0 : 0 ≤ s ∧ s < cB1 191 1 := by omega
      clear hs pb
      by_cases hw : cB1 191 (51 + s) = 0
      · have hbt : ¬ bt (cB1 191 167) s = 1 := fun x => (a5.2.2.1.mp x) hw
        refine b64_28 hG TM_eqo (by intros; omega) (by intros; omega) (by intros; omega) (a4.2.1) (by intros; omega) ?_ ?_ ?_
        · intro q1 q2
          refine c_advance hG t1 (fun cA2 f2 t2 => sw ?_)
          refine b184_343 hG (by intros; omega) (up_e) (up_n (by omega)) ?_ ?_
          · intro z1
            refine r_bitO hG ?_
            rw [if_neg hbt]
            refine b184_365 hG TM_eqo (by intros; omega) (up_n (by omega)) ?_ ?_
            · intro z2
              refine r_advance hG (RT_row (StO_18 (v := s) S1).2.2.1 (by omega) (by omega)) hW.1 hW.2.1 hW.2.2.1 (fun cB2 g2 u2 => ?_)
              refine sw ?_
              refine b64_64 hG ?_
              refine ln_onlyL hG hW S1 b0 (by clear S1; omega) 7 0 0 (j + 1 + 1) cA2 cB2 (by omega) (by omega) (by omega) (by omega) sum6_0 ⟨fun _ => rfl, fun _ => rfl⟩ ⟨fun r h1 h2 => f2.1 r h1, ?_, ⟨f2.2 9 (by omega) (by omega) (by omega) (by omega) (by omega), f2.2 14 (by omega) (by omega) (by omega) (by omega) (by omega), by rw [g2.2 15 (by omega) (by omega) (by omega) (by omega) (by omega) (by omega), up_n (by omega), up_n (by omega)]⟩, fun r h1 h2 => by rw [g2.1 r h1, up_r h2, up_r h1], ?_, ?_⟩ t2 u2 (FAo_V S1.2.2.2.1 f2) (FBo_N (FBo_U (i := 167) (v := q_or (cB1 191 167) (q_shl 1 s)) (FBo_T (v := s) (i := 18) S1.2.2.2.2.1 (by omega))) g2) (by clear S1; omega) (fun x => by omega)
              · rw [f2.1 24 (by omega)]
                funext i
                by_cases hi : i = s
                · rw [hi, u1_e, a4.2.1, hw]
                · rw [u1_n hi]
              · rw [g2.1 191 (by omega), up_er, up_r (by omega)]
                funext i
                by_cases hi : i = 51 + s
                · rw [hi, u1_e, u1_n (by omega), hw]
                · rw [u1_n (f := q_u1 (cB1 191) 167 (q_or (cB1 191 167) (q_shl 1 s))) hi]
              · rw [g2.2 20 (by omega) (by omega) (by omega) (by omega) (by omega) (by omega), up_n (by omega), up_n (by omega)]
            · intro z2; omega
          · intro z1; omega
        · intro q1 q2; omega
        · intro q1; omega
      · have hbt : bt (cB1 191 167) s = 1 := a5.2.2.1.mpr hw
        refine b64_28 hG TM_eqo (by intros; omega) (by intros; omega) (by intros; omega) (a4.2.1) (by intros; omega) ?_ ?_ ?_
        · intro q1 q2; omega
        · intro q1 q2
          refine c_ref hG t1 (fun cA2 f2 => ?_)
          refine b64_56 hG (Or.inl rfl) ?_
          refine b184_343 hG (by intros; omega) (up_e) (up_n (by omega)) ?_ ?_
          · intro z1
            refine r_bitO hG ?_
            rw [if_pos hbt]
            refine b184_365 hG TM_eqo (by intros; omega) rfl ?_ ?_
            · intro z2; omega
            · intro z2
              refine r_bad hG (StO_18 S1).2.2.1 (fun cB2 g2 => ?_)
              refine b184_373 hG (Or.inl rfl) ?_
              exact Ln_f hW S1.2.2.2.1 (StO_18 S1).2.2.2.2.1 f2 g2 (by omega)
          · intro z1; omega
        · intro q1; omega
    · refine r_sLook hG hW S1 (fun x1 x2 => absurd ⟨x1, x2⟩ hc) (fun _ cB2 g2 => ?_)
      refine b184_343 hG (by intros; omega) rfl rfl ?_ ?_
      · intro z1; omega
      · intro z1
        refine b64_7 hG (hb.2.1) ?_
        refine c_sName hG hW S1 (fun x1 x2 => absurd ⟨x1, x2⟩ hc) (fun _ cA2 f2 => ?_)
        refine b64_28 hG TM_eqo (by intros; omega) (by intros; omega) (by intros; omega) rfl (by intros; omega) ?_ ?_ ?_
        · intro q1 q2; omega
        · intro q1 q2; omega
        · intro q1
          exact Ln_f hW S1.2.2.2.1 S1.2.2.2.2.1 f2 g2 fM_b
end SPoi
