section SPjz
variable {mi d pc : Nat} {ins : Instr} {L : LV} {st st' : List AV} {h h' : HH} {r k : Nat} {i v : Int} {Q : OO → HH → Prop}
theorem r0_up (ho : q_ok h r k = true) : (q_up h.2 r i v) 0 = h.2 0 := by
  obtain ⟨a, _⟩ := q_bool2 ho
  obtain ⟨a, _⟩ := q_bool2 a
  obtain ⟨a, _⟩ := q_bool2 a
  have h1 : 1 ≤ r := of_decide_eq_true a
  exact up_r (by omega)
theorem r0_uf {f : Int → Int} (ho : q_ok h r k = true) : (q_uf h.2 r f) 0 = h.2 0 := by
  obtain ⟨a, _⟩ := q_bool2 ho
  obtain ⟨a, _⟩ := q_bool2 a
  obtain ⟨a, _⟩ := q_bool2 a
  have h1 : 1 ≤ r := of_decide_eq_true a
  exact uf_n (by omega)
theorem r0_H (hs : stH mi ins st h = some (st', h')) : h'.2 0 = h.2 0 := by
  have nm : ∀ {k n : Nat} {f : Int → Int} {rest : List AV}, (q_new h k n f).map (fun q => (aR q.1 :: rest, q.2)) = some (st', h') → h'.2 0 = h.2 0 := by
    intro k n f rest hq
    obtain ⟨q, h1, h2⟩ := q_map_some hq
    unfold q_new at h1
    split at h1
    · cases h1
      cases h2
      show (q_uf h.2 (h.1.1 + 1) f) 0 = h.2 0
      exact uf_n (by omega)
    · cases h1
  unfold stH at hs
  split at hs
  case h_1 =>
    unfold q_get at hs
    split at hs
    · split at hs
      · cases hs; rfl
      · cases hs
    · cases hs
  case h_2 =>
    unfold q_put at hs
    split at hs
    · split at hs
      · rename_i hg
        have ho := hg.2.2.1
        split at hs
        · split at hs
          · cases hs; exact r0_up ho
          · cases hs
        · split at hs
          · cases hs; exact r0_up ho
          · cases hs
        · split at hs
          · cases hs; rfl
          · cases hs
      · cases hs
    · cases hs
  case h_3 =>
    split at hs
    · split at hs
      · cases hs; rfl
      · cases hs
    · split at hs
      · cases hs; rfl
      · cases hs
  case h_4 => split at hs; (cases hs; rfl); cases hs
  case h_5 => split at hs; (cases hs; rfl); cases hs
  case h_6 => split at hs; (cases hs; rfl); cases hs
  case h_7 =>
    split at hs
    · rename_i hg
      obtain ⟨g, _⟩ := q_bool2 hg
      cases hs; exact r0_up g
    · cases hs
  case h_8 =>
    split at hs
    · rename_i hg
      obtain ⟨g, _⟩ := q_bool2 hg
      cases hs; exact r0_up g
    · cases hs
  case h_9 =>
    split at hs
    · rename_i hg
      obtain ⟨g, _⟩ := q_bool2 hg
      cases hs
      rcases q_or2 g with g | g
      · exact r0_up g
      · exact r0_up g
    · cases hs
  case h_10 => split at hs; (cases hs; rfl); cases hs
  case h_11 =>
    split at hs
    · split at hs
      · cases hs; rfl
      · cases hs
    · split at hs
      · cases hs; rfl
      · cases hs
  case h_12 =>
    split at hs
    · split at hs
      · exact nm hs
      · cases hs
    · cases hs
  case h_13 =>
    split at hs
    · split at hs
      · exact nm hs
      · exact nm hs
      · exact nm hs
      · exact nm hs
      · cases hs
    · cases hs
  case h_14 =>
    split at hs
    · split at hs
      · exact nm hs
      · cases hs
    · cases hs
  case h_15 =>
    split at hs
    · split at hs
      · cases hs; rfl
      · cases hs
    · cases hs
  case h_16 =>
    split at hs
    · split at hs
      · cases hs; rfl
      · cases hs
    · cases hs
  case h_17 =>
    split at hs
    · split at hs
      · cases hs; rfl
      · cases hs
    · cases hs
  case h_18 =>
    split at hs
    · split at hs
      · cases hs; rfl
      · cases hs
    · cases hs
  case h_19 =>
    split at hs
    · split at hs
      · unfold q_ac at hs
        split at hs
        · split at hs
          · rename_i hg
            cases hs
            rcases hg.1 with g | g
            · exact r0_uf g.2
            · exact r0_uf g.2
          · cases hs
        · cases hs
      · split at hs
        · split at hs
          · exact nm hs
          · cases hs
        · split at hs
          · split at hs
            · split at hs
              · cases hs; rfl
              · cases hs
            · cases hs
          · cases hs
    · cases hs
  case h_20 => cases hs
theorem r0_tab : ((List.range 15).all (fun o => decide (o = 13) || ((q_pll.getD o []).all (fun q => (decide (q.2.1 < 13) || decide (14 < q.2.1)) && (decide (5 < q.2.1) || !(decide (mO q.2.2.1 = 13))))))) = true := by decide +kernel
theorem r0_own : ∀ mi < 269, mO mi < 15 := by decide +kernel
theorem r0_C {t k i z1 : Nat} {z2 : Int} (ho : ¬ mO mi = 13) (hp : pl (mO mi) i = some (t, k, z1, z2)) : ¬ (t = 13 ∨ t = 14) ∧ (t ≤ 5 → ¬ mO k = 13) := by
  have h1 := q_lk_mem hp
  by_cases hlt : mO mi < 15
  · have h2 := r0_tab
    rw [List.all_eq_true] at h2
    have h3 := h2 (mO mi) (List.mem_range.mpr hlt)
    rw [decide_eq_false ho, Bool.false_or, List.all_eq_true] at h3
    have h4 := h3 _ h1
    obtain ⟨h5, h6⟩ := q_bool2 h4
    refine ⟨?_, fun h7 h8 => ?_⟩
    · rcases q_or2 h5 with g | g
      · have : t < 13 := of_decide_eq_true g
        omega
      · have : 14 < t := of_decide_eq_true g
        omega
    · rcases q_or2 h6 with g | g
      · have : 5 < t := of_decide_eq_true g
        omega
      · have g : (!(decide (mO k = 13))) = true := g
        rw [decide_eq_true h8] at g
        cases g
  · rw [show q_pll.getD (mO mi) [] = [] from by
      rw [List.getD_eq_getElem?_getD, List.getElem?_eq_none (by show 15 ≤ mO mi; omega)]
      rfl] at h1
    cases h1
set_option maxHeartbeats 2000000 in
theorem ev_r0 : ∀ (n d mi pc : Nat) (L : LV) (st : List AV) (h : HH) (o : OO) (h' : HH), ¬ mO mi = 13 → ev n d mi pc L st h = some (o, h') → h'.2 0 = h.2 0 := by
  intro n
  induction n with
  | zero => intro d mi pc L st h o h' hm he; cases he
  | succ n ih =>
    intro d mi pc L st h o h' hm he
    unfold ev at he
    cases hd : decode (mC mi) pc with
    | error e => rw [hd] at he; cases he
    | ok q =>
      obtain ⟨ins, len⟩ := q
      rw [hd] at he
      dsimp only at he
      by_cases hl : q_ln ins len = false
      · rw [if_pos hl] at he; cases he
      rw [if_neg hl] at he
      cases h1 : stL ins L st with
      | some q => rw [h1] at he; exact ih _ _ _ _ _ _ _ _ hm he
      | none =>
      rw [h1] at he
      dsimp only at he
      cases h2 : stP ins st with
      | some q => rw [h2] at he; exact ih _ _ _ _ _ _ _ _ hm he
      | none =>
      rw [h2] at he
      dsimp only at he
      cases h3 : stJ ins pc st with
      | some q => rw [h3] at he; exact ih _ _ _ _ _ _ _ _ hm he
      | none =>
      rw [h3] at he
      dsimp only at he
      cases h4 : stH mi ins st h with
      | some q =>
        rw [h4] at he
        exact (ih _ _ _ _ _ _ _ _ hm he).trans (r0_H h4)
      | none =>
      rw [h4] at he
      dsimp only at he
      cases h5 : stR mi ins st with
      | some q => rw [h5] at he; cases he; rfl
      | none =>
      rw [h5] at he
      dsimp only at he
      cases h6 : stC mi ins st with
      | none =>
        rw [h6] at he
        dsimp only at he
        split at he
        · cases he; rfl
        · cases he
      | some q =>
        obtain ⟨t, k, as, rest⟩ := q
        obtain ⟨i, z1, z2, hp, ht, -⟩ := q_stC h6
        obtain ⟨nt, hk⟩ := r0_C hm hp
        rw [h6] at he
        dsimp only at he
        cases d with
        | zero => cases he
        | succ d' =>
          dsimp only at he
          rw [if_neg nt] at he
          split at he
          · split at he
            · rename_i hv
              exact (ih _ _ _ _ _ _ _ _ hm he).trans (ih _ _ _ _ _ _ _ _ (hk (by rcases ht with x | x | x <;> omega)) hv)
            · cases he
          · cases he
theorem T_r0 (hm : ¬ mO mi = 13) (x : T d mi pc L st h Q) : T d mi pc L st h (fun o h' => Q o h' ∧ h'.2 0 = h.2 0) := by
  obtain ⟨n, o, h', e, q⟩ := x
  exact ⟨n, o, h', e, q, ev_r0 _ _ _ _ _ _ _ _ _ hm e⟩
theorem TM_r0 {d k : Nat} {as : List AV} {Q : Option AV → HH → Prop} (hm : ¬ mO k = 13) (x : TM d k as h Q) : TM d k as h (fun r h' => Q r h' ∧ h'.2 0 = h.2 0) := by
  refine T_mono (fun o h' z => ?_) (T_r0 hm x)
  cases o with
  | inl r => exact z
  | inr w => exact False.elim z.1
theorem OP_j0 {kx km : Nat} {G : GG} {c : CC} {ax : List AV} (hG : Shp G) (h : OP G d kx km ax c c) (hk : gd km = true) (ha : ∀ a ∈ ax, ∃ v : Int, a = aI v) (o1 : ¬ mO kx = 13) (o2 : ¬ mO km = 13) : TM d kx (aR 1 :: ax) (G, c) (fun r1 h1 => ∃ c1 v, h1 = (G, c1) ∧ r1 = some (aI v) ∧ I32 v ∧ TM d km (aR 188 :: ax) (G, c1) (fun r2 h2 => ∃ c2, h2 = (G, c2) ∧ r2 = some (aI v) ∧ GR c2 c2 ∧ c2 0 0 = c 0 0)) := by
  refine TM_Qm (fun r1 h1 x => ?_) (TM_r0 o1 (OP_join hG h hk ha))
  obtain ⟨⟨c1, v, e1, e2, e3, x2⟩, z1⟩ := x
  subst e1
  refine ⟨c1, v, rfl, e2, e3, TM_Qm (fun r2 h2 y => ?_) (TM_r0 o2 x2)⟩
  obtain ⟨⟨c2, e4, e5, g2⟩, z2⟩ := y
  subst e4
  exact ⟨c2, rfl, e5, g2, (congrFun z2 0).trans (congrFun z1 0)⟩
end SPjz
