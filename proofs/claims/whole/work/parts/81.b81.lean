section SPF4
variable {P : Nat → Bool} {mi d pc : Nat} {ins : Instr} {L L' : LV} {st st' : List AV} {G : GG} {c c' c0 c1 c2 : CC} {h' : HH} {v : AV}
theorem mrg_mrg : mrg P c2 (mrg P c1 c0) = mrg P c2 c0 := by
  funext r
  unfold mrg
  split <;> rfl
theorem gd_law (h : gd mi = true) : ¬ mi = q_law := by
  unfold gd at h
  obtain ⟨h1, h2⟩ := q_bool2 h
  obtain ⟨h1, h3⟩ := q_bool2 h1
  have h4 := of_decide_eq_true h3
  show ¬ mi = 271
  omega
theorem p_stR {r : Option AV} (hs : stR mi ins st = some r) : ∀ v, r = some v → pV P v := by
  unfold stR at hs
  split at hs
  · split at hs
    · cases hs; intro v hv; cases hv
    · cases hs
  · split at hs
    · cases hs; intro v hv; cases hv; trivial
    · cases hs
  · split at hs
    · cases hs; intro v hv; cases hv; trivial
    · cases hs
  · cases hs
theorem p_toL {r : Option AV} {rest : List AV} (h : ∀ v, r = some v → pV P v) (h2 : pS P rest) : pS P (r.toList ++ rest) := by
  cases r with
  | none => exact h2
  | some v => exact pS_c (h v rfl) h2
theorem pS_app {as rest : List AV} (h : pS P (as.reverse ++ rest)) : pS P as ∧ pS P rest :=
  ⟨fun v hv => h v (List.mem_append_left _ (List.mem_reverse.mpr hv)), fun v hv => h v (List.mem_append_right _ hv)⟩
theorem p_cal {len t k : Nat} {as rest : List AV} (hc : chk mi pc = true) (hd : decode (mC mi) pc = .ok (ins, len)) (hs : stC mi ins st = some (t, k, as, rest)) : ¬ (t = 13 ∨ t = 14) ∧ gd k = true := by
  obtain ⟨i, z1, z2, hp, hi, -⟩ := q_stC hs
  unfold chk at hc
  rw [hd] at hc
  dsimp only at hc
  rcases hi with ⟨rfl, rfl⟩ | ⟨rfl, ht⟩ | ⟨rfl, ht⟩
  · dsimp only at hc
    rw [hp] at hc
    dsimp only at hc
    rw [Bool.or_eq_true] at hc
    rcases hc with hc | hc
    · exact absurd rfl (of_decide_eq_true hc)
    · exact ⟨by omega, hc⟩
  · dsimp only at hc
    rw [hp] at hc
    dsimp only at hc
    obtain ⟨h1, h2⟩ := q_bool2 hc
    have h1 := of_decide_eq_true h1
    rw [Bool.or_eq_true] at h2
    refine ⟨by omega, ?_⟩
    rcases h2 with h2 | h2
    · have h2 := of_decide_eq_true h2
      omega
    · exact h2
  · dsimp only at hc
    rw [hp] at hc
    dsimp only at hc
    rw [Bool.or_eq_true] at hc
    rcases hc with hc | hc
    · have := of_decide_eq_true hc
      omega
    · exact ⟨by omega, hc⟩
set_option maxHeartbeats 2000000 in
theorem ev_fr (hcl : Cl P G) : ∀ (n d mi pc : Nat) (L : LV) (st : List AV) (c : CC) (o : OO) (h' : HH), gd mi = true → stt mi pc = true → pL P L → pS P st → ev n d mi pc L st (G, c) = some (o, h') → (∀ v, o = .inl (some v) → pV P v) ∧ ∃ c', h' = (G, c') ∧ (∀ r, ¬ P r = true → c' r = c r) ∧ ∀ c0 : CC, (∀ r, P r = true → c0 r = c r) → ev n d mi pc L st (G, c0) = some (o, (G, mrg P c' c0)) := by
  intro n
  induction n with
  | zero => intro d mi pc L st c o h' _ _ _ _ he; cases he
  | succ n ih =>
    intro d mi pc L st c o h' hm hst hL hS he
    unfold ev at he
    cases hd : decode (mC mi) pc with
    | error e => rw [hd] at he; cases he
    | ok q =>
      obtain ⟨ins, len⟩ := q
      obtain ⟨hck, hsu⟩ := chk_ok hm hst hd
      rw [hd] at he
      dsimp only at he
      by_cases hl : q_ln ins len = false
      · rw [if_pos hl] at he; cases he
      rw [if_neg hl] at he
      cases h1 : stL ins L st with
      | some q =>
        obtain ⟨L', st'⟩ := q
        rw [h1] at he
        obtain ⟨p1, p2⟩ := p_stL hL hS h1
        obtain ⟨hv, c', e1, e2, e3⟩ := ih _ _ _ _ _ _ _ _ hm (hsu _ (sucs_n (G := G) (c := c) (mi := mi) (fun _ => trivial) (Or.inl ⟨_, h1⟩))) p1 p2 he
        refine ⟨hv, c', e1, e2, fun c0 h0 => ?_⟩
        unfold ev
        rw [hd]
        dsimp only
        rw [if_neg hl, h1]
        exact e3 c0 h0
      | none =>
      rw [h1] at he
      dsimp only at he
      cases h2 : stP ins st with
      | some st' =>
        rw [h2] at he
        obtain ⟨hv, c', e1, e2, e3⟩ := ih _ _ _ _ _ _ _ _ hm (hsu _ (sucs_n (G := G) (c := c) (mi := mi) (L := L) (fun _ => trivial) (Or.inr (Or.inl ⟨_, h2⟩)))) hL (p_stP hS h2) he
        refine ⟨hv, c', e1, e2, fun c0 h0 => ?_⟩
        unfold ev
        rw [hd]
        dsimp only
        rw [if_neg hl, h1]
        dsimp only
        rw [h2]
        exact e3 c0 h0
      | none =>
      rw [h2] at he
      dsimp only at he
      cases h3 : stJ ins pc st with
      | some q =>
        obtain ⟨pc', st'⟩ := q
        rw [h3] at he
        obtain ⟨hv, c', e1, e2, e3⟩ := ih _ _ _ _ _ _ _ _ hm (hsu _ (p_stJ_s h3)) hL (p_stJ hS h3) he
        refine ⟨hv, c', e1, e2, fun c0 h0 => ?_⟩
        unfold ev
        rw [hd]
        dsimp only
        rw [if_neg hl, h1]
        dsimp only
        rw [h2]
        dsimp only
        rw [h3]
        exact e3 c0 h0
      | none =>
      rw [h3] at he
      dsimp only at he
      cases h4 : stH mi ins st (G, c) with
      | some q =>
        obtain ⟨st', h1'⟩ := q
        rw [h4] at he
        obtain ⟨c1, rfl, p1, p2, p3⟩ := p_stH hcl (gd_law hm) hck hd hS h4
        obtain ⟨hv, c', e1, e2, e3⟩ := ih _ _ _ _ _ _ _ _ hm (hsu _ (sucs_n (L := L) (fun _ => trivial) (Or.inr (Or.inr (Or.inl ⟨_, h4⟩))))) hL p1 he
        refine ⟨hv, c', e1, fun r hr => (e2 r hr).trans (p2 r hr), fun c0 h0 => ?_⟩
        unfold ev
        rw [hd]
        dsimp only
        rw [if_neg hl, h1]
        dsimp only
        rw [h2]
        dsimp only
        rw [h3]
        dsimp only
        rw [p3 c0 h0]
        dsimp only
        have := e3 (mrg P c1 c0) (fun r hr => mrg_t hr)
        rw [mrg_mrg] at this
        exact this
      | none =>
      rw [h4] at he
      have h4' : ∀ c0 : CC, (∀ r, P r = true → c0 r = c r) → stH mi ins st (G, c0) = none := by
        intro c0 h0
        cases h9 : stH mi ins st (G, c0) with
        | none => rfl
        | some q =>
          obtain ⟨st', h1'⟩ := q
          obtain ⟨c1, _, _, _, p3⟩ := p_stH hcl (gd_law hm) hck hd hS h9
          have := p3 c (fun r hr => (h0 r hr).symm)
          rw [h4] at this
          cases this
      dsimp only at he
      cases h5 : stR mi ins st with
      | some r =>
        rw [h5] at he
        cases he
        refine ⟨fun v hv => p_stR h5 v (by cases hv; rfl), c, rfl, fun r _ => rfl, fun c0 h0 => ?_⟩
        unfold ev
        rw [hd]
        dsimp only
        rw [if_neg hl, h1]
        dsimp only
        rw [h2]
        dsimp only
        rw [h3]
        dsimp only
        rw [h4' c0 h0]
        dsimp only
        rw [h5, mrg_self h0]
      | none =>
      rw [h5] at he
      dsimp only at he
      cases h6 : stC mi ins st with
      | none =>
        rw [h6] at he
        dsimp only at he
        split at he
        · rename_i hx
          cases he
          refine ⟨(fun v hv => absurd hv (by simp)), c, rfl, fun r _ => rfl, fun c0 h0 => ?_⟩
          unfold ev
          rw [hd]
          dsimp only
          rw [if_neg hl, h1]
          dsimp only
          rw [h2]
          dsimp only
          rw [h3]
          dsimp only
          rw [h4' c0 h0]
          dsimp only
          rw [h5]
          dsimp only
          rw [h6]
          dsimp only
          rw [if_pos hx, mrg_self h0]
        · cases he
      | some q =>
        obtain ⟨t, k, as, rest⟩ := q
        obtain ⟨ht, hk⟩ := p_cal hck hd h6
        obtain ⟨i, z1, z2, -, hi, -, hst2, -, -⟩ := q_stC h6
        have hlen : len = 3 := by
          have hl2 : q_ln ins len = true := by
            cases hx : q_ln ins len with
            | true => rfl
            | false => exact absurd hx hl
          rcases hi with ⟨rfl, _⟩ | ⟨rfl, _⟩ | ⟨rfl, _⟩ <;> (unfold q_ln at hl2; simpa using hl2)
        rw [hst2] at hS
        obtain ⟨pa, pr⟩ := pS_app hS
        rw [h6] at he
        dsimp only at he
        cases d with
        | zero => cases he
        | succ d' =>
          dsimp only at he
          rw [if_neg ht] at he
          split at he
          · rename_i hg
            split at he
            · rename_i r h1' hv1
              obtain ⟨hv, c1, rfl, e2, e3⟩ := ih _ _ _ _ _ _ _ _ hk (stt_0 hk) (p_ent pa) (fun v hv => by cases hv) hv1
              have hp3 : stt mi (pc + 3) = true := by
                have := hsu _ (sucs_n (G := G) (c := c) (L := L) (fun _ => trivial) (Or.inr (Or.inr (Or.inr ⟨_, h6⟩))))
                rwa [hlen] at this
              obtain ⟨hw, c', f1, f2, f3⟩ := ih _ _ _ _ _ _ _ _ hm hp3 hL (p_toL (fun v hr => hv v (by rw [hr])) pr) he
              refine ⟨hw, c', f1, fun r hr => (f2 r hr).trans (e2 r hr), fun c0 h0 => ?_⟩
              unfold ev
              rw [hd]
              dsimp only
              rw [if_neg hl, h1]
              dsimp only
              rw [h2]
              dsimp only
              rw [h3]
              dsimp only
              rw [h4' c0 h0]
              dsimp only
              rw [h5]
              dsimp only
              rw [h6]
              dsimp only
              rw [if_neg ht, recv_c0 (c := c), if_pos hg, e3 c0 h0]
              dsimp only
              have := f3 (mrg P c1 c0) (fun r hr => mrg_t hr)
              rw [mrg_mrg] at this
              exact this
            · cases he
          · cases he
def rP (r : Nat) : Bool := decide (188 ≤ r)
theorem q_shls_len : q_shls.length = 212 := by decide +kernel
theorem rf_all : ((List.range 212).all (fun r => decide (r < 188) || (List.range 50).all (fun k => !(decide (k < q_N (q_shp r).1) && decide (q_ft (q_shp r).1 k = 3)) || q_rfls.any (fun q => decide (q.1 = r) && decide (q.2.1 = k) && decide (188 ≤ q.2.2)))) && (List.range 212).all (fun r => decide (r < 188) || (!(decide ((q_shp r).1 = 24)) && !(decide ((q_shp r).1 = 25))))) = true := by decide +kernel
theorem N_lt (ci : Nat) : q_N ci ≤ 50 := by
  unfold q_N
  by_cases h : ci < 13
  · have h2 : ((List.range 13).all (fun ci => decide ((q_ftl.getD ci []).length ≤ 50))) = true := by decide +kernel
    rw [List.all_eq_true] at h2
    exact of_decide_eq_true (h2 ci (List.mem_range.mpr h))
  · have h3 : q_ftl.length = 13 := by decide +kernel
    rw [List.getD_eq_getElem?_getD, List.getElem?_eq_none (by omega)]
    simp
theorem Cl_r (hG : Shp G) : Cl rP G := by
  obtain ⟨g1, g2⟩ := q_bool2 rf_all
  rw [List.all_eq_true] at g1 g2
  refine ⟨?_, ?_⟩
  · intro r ci k hok hP hk hft
    have hr : r < 212 := by have := hok.2.1; rw [hG.1] at this; omega
    have h188 : 188 ≤ r := of_decide_eq_true hP
    have hci : (q_shp r).1 = ci := by rw [← hG.2.1 r hr]; exact hok.2.2.2
    have h1 := g1 r (List.mem_range.mpr hr)
    rw [Bool.or_eq_true] at h1
    rcases h1 with h1 | h1
    · have := of_decide_eq_true h1; omega
    rw [List.all_eq_true] at h1
    have h2 := h1 k (List.mem_range.mpr (by have := N_lt ci; omega))
    rw [hci, decide_eq_true hk, decide_eq_true hft] at h2
    have h3 : q_rfls.any (fun q => decide (q.1 = r) && decide (q.2.1 = k) && decide (188 ≤ q.2.2)) = true := h2
    rw [List.any_eq_true] at h3
    obtain ⟨q, q1, q2⟩ := h3
    obtain ⟨q2, q4⟩ := q_bool2 q2
    obtain ⟨q2, q3⟩ := q_bool2 q2
    have := hG.2.2 q q1
    rw [of_decide_eq_true q2, of_decide_eq_true q3] at this
    rw [this]
    exact decide_eq_true (of_decide_eq_true q4)
  · intro r i hok hP _
    have h188 : 188 ≤ r := of_decide_eq_true hP
    have hr : r < 212 := by
      rcases hok with hok | hok <;> (have := hok.2.1; rw [hG.1] at this; omega)
    have h1 := g2 r (List.mem_range.mpr hr)
    rw [Bool.or_eq_true] at h1
    rcases h1 with h1 | h1
    · have := of_decide_eq_true h1; omega
    · obtain ⟨h2, h3⟩ := q_bool2 h1
      have e := hG.2.1 r hr
      rcases hok with hok | hok
      · rw [← e, hok.2.2.2] at h2; cases h2
      · rw [← e, hok.2.2.2] at h3; cases h3
theorem TM_fr (hG : Shp G) {k : Nat} {as : List AV} {Q : Option AV → HH → Prop} (hk : gd k = true) (ha : pS rP as) (h : TM d k as (G, c) Q) (h0 : ∀ r, 188 ≤ r → c0 r = c r) : TM d k as (G, c0) (fun r h' => ∃ c', Q r (G, c') ∧ h' = (G, mrg rP c' c0)) := by
  obtain ⟨n, o, h', he, hq⟩ := h
  obtain ⟨hv, c', rfl, e2, e3⟩ := ev_fr (Cl_r hG) n d k 0 _ _ c o h' hk (stt_0 hk) (p_ent ha) (fun v hv => by cases hv) he
  refine ⟨n, o, _, e3 c0 (fun r hr => h0 r (of_decide_eq_true hr)), ?_⟩
  cases o with
  | inl r => exact ⟨c', hq, rfl⟩
  | inr z => exact hq
end SPF4
