section SPjc
variable {d pc i : Nat} {G : GG} {c c' : CC} {v x : Int} {L : LV} {st : List AV} {Q : OO → HH → Prop}
def scr (G : GG) (i : Int) : Int := (G.2.2.2.2.2 i.toNat).toInt
theorem scr_b : I32 (scr G x) := by
  unfold scr
  have := Int32.toInt_lt (G.2.2.2.2.2 x.toNat)
  have := Int32.le_toInt (G.2.2.2.2.2 x.toNat)
  omega
theorem e_sln (hd : decode (mC 271) pc = .ok (.arraylength, 1)) (K : T d 271 (pc + 1) L (aI (G.2.2.2.2.1 : Int) :: st) (G, c) Q) : T d 271 pc L (aR q_S :: st) (G, c) Q :=
  e_H hd rfl rfl rfl rfl (by
    unfold stH
    dsimp only
    rw [if_pos rfl, if_pos (show (271 : Nat) = q_law by decide)]) K
theorem e_sld (hd : decode (mC 271) pc = .ok (.iaload, 1)) (h0 : 0 ≤ v) (h1 : v < (G.2.2.2.2.1 : Int)) (K : T d 271 (pc + 1) L (aI (scr G v) :: st) (G, c) Q) : T d 271 pc L (aI v :: aR q_S :: st) (G, c) Q :=
  e_H hd rfl rfl rfl rfl (by
    unfold stH
    dsimp only
    rw [if_pos rfl, if_pos (show (271 : Nat) = q_law ∧ 0 ≤ v ∧ v < (G.2.2.2.2.1 : Int) from ⟨by decide, h0, h1⟩)]
    rfl) K
theorem e_XL {as : List AV} {k : Nat} (hG : Shp G) (hd : decode (mC 271) pc = .ok (.invokestatic i, 3)) (hc : (match pl (mO 271) i with | some (t, k', _, _) => (decide (t = 13) || decide (t = 14)) && decide (k' = k) | none => false) = true) (hk : (decide (as.length + 1 = mA k) && decide (k < q_law)) = true) (hs : st = aR 211 :: (aR 1 :: as).reverse) (hi : q_ints as = true) (hle : (q_al (aR 1 :: as)).length ≤ mL k)
    (hm : T d k 0 (q_ent k (aR 1 :: as)) [] (G, c) (QX (fun r h1 => ∃ c1, ∃ v : Int, r = some (aI v) ∧ I32 v ∧ h1 = (G, c1) ∧ T (d + 2) 271 (pc + 3) L [aI 0] (G, q_up c1 211 0 v) Q) (fun h1 => ∃ c1, h1 = (G, c1) ∧ T (d + 2) 271 (pc + 3) L [aI 1] (G, q_up c1 0 0 (c1 0 0 + 1)) Q))) : T (d + 2) 271 pc L st (G, c) Q := by
  obtain ⟨h1, h2⟩ := q_bool2 hk
  have h3 : as.length + 1 = mA k := of_decide_eq_true h1
  have o1 : okR G 1 11 := sh_ok hG (by decide +kernel)
  have o2 : okR G 211 21 := sh_ok hG (by decide +kernel)
  have l2 : lnR G 211 1 := sh_ln hG (by decide +kernel)
  split at hc
  · rename_i t' k' z1 z2 hp
    obtain ⟨g1, g2⟩ := q_bool2 hc
    have g2 := of_decide_eq_true g2
    have g1 : t' = 13 ∨ t' = 14 := by simpa using g1
    subst g2
    have hl : st.length = mA k' + 1 := by rw [hs]; simp; omega
    have hstC : stC 271 (.invokestatic i) st = some (t', k', (aR 1 :: as) ++ [aR 211], []) := by
      show (match (pl (mO 271) i).bind (fun q => if q.1 = 2 ∨ q.1 = 3 ∨ q.1 = 13 ∨ q.1 = 14 then some (q.1, q.2.1) else none) with | some (t, k) => (let na := if t = 13 ∨ t = 14 then mA k + 1 else mA k; if na ≤ st.length ∧ q_csum (st.drop na) ≤ 8 ∧ k < q_law then some (t, k, (st.take na).reverse, st.drop na) else none) | none => none) = _
      rw [hp]
      simp only [Option.bind_some, if_pos (show t' = 2 ∨ t' = 3 ∨ t' = 13 ∨ t' = 14 by omega), if_pos g1, ← hl, List.drop_length, List.take_length]
      rw [if_pos ⟨Nat.le_refl _, by decide, of_decide_eq_true h2⟩, hs]
      simp
    refine e_XC (x := 1) (o := 211) (as' := as) hd rfl ?_ ?_ ?_ ?_ ?_ hstC g1 (by rw [List.dropLast_concat]) (by rw [List.getLast?_concat]) ?_ (T_mono (fun oo h' z => ?_) hm)
    · rfl
    · cases st <;> rfl
    · cases st <;> rfl
    · unfold stH
      dsimp only
      rw [hp]
      dsimp only
      rw [if_neg (by omega), if_neg (by omega), if_neg (by omega)]
    · cases st <;> rfl
    · rw [okR_ok o1, okR_ok o2, hi, decide_eq_true hle]; rfl
    · cases oo with
      | inl r =>
        obtain ⟨c1, v, z1, z2, z3, z4⟩ := z
        subst z3
        exact ⟨v, z1, by rw [qin_of z2, okR_ok o2, lnR_ix (n := 1) l2 (by omega) (by omega) (by omega)]; rfl, z4⟩
      | inr w =>
        obtain ⟨c1, z1, z2⟩ := z
        subst z1
        exact z2
  · cases hc
end SPjc
