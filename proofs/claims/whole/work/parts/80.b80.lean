section SPF3
variable {P : Nat → Bool} {mi d pc : Nat} {ins : Instr} {L L' : LV} {st st' : List AV} {G : GG} {c c' c0 : CC} {h' : HH} {v : AV}
def pV (P : Nat → Bool) : AV → Prop
  | .inl _ => True
  | .inr (.inl _) => True
  | .inr (.inr r) => P r = true
def pS (P : Nat → Bool) (st : List AV) : Prop := ∀ v ∈ st, pV P v
def pL (P : Nat → Bool) (L : LV) : Prop := ∀ i v, lg L i = some v → pV P v
def mrg (P : Nat → Bool) (c' c0 : CC) : CC := fun r => if P r = true then c' r else c0 r
def Cl (P : Nat → Bool) (G : GG) : Prop :=
  (∀ r ci k, okR G r ci → P r = true → k < q_N ci → q_ft ci k = 3 → P (G.2.2.2.1 r k) = true) ∧
  (∀ r i, (okR G r 24 ∨ okR G r 25) → P r = true → i < (G.2.2.1 r).2 → P (G.2.2.2.1 r i) = true)
theorem pS_c (h1 : pV P v) (h2 : pS P st) : pS P (v :: st) := by
  intro w hw
  rcases List.mem_cons.mp hw with h | h
  · rw [h]; exact h1
  · exact h2 w h
theorem pS_t (h : pS P (v :: st)) : pS P st := fun w hw => h w (List.mem_cons_of_mem _ hw)
theorem pS_h (h : pS P (v :: st)) : pV P v := h v List.mem_cons_self
theorem pL_lput {i : Nat} (hL : pL P L) (hv : pV P v) (hp : lput L i v = some L') : pL P L' := by
  have h1 : ∀ j w, lg ((q_clob L i).set i (some v)) j = some w → pV P w := by
    intro j w hw
    rw [lg_set] at hw
    split at hw
    · cases hw; exact hv
    · exact hL j w (q_clob_lg hw).1
  unfold lput at hp
  split at hp
  · split at hp
    · cases hp; exact h1
    · cases hp
  · split at hp
    · cases hp
      intro j w hw
      rw [lg_set] at hw
      split at hw
      · cases hw
      · exact h1 j w hw
    · cases hp
theorem pL_mp {i : Nat} {st0 : List AV} (hL : pL P L) (hv : pV P v) (hs : pS P st0) (hp : (lput L i v).map (fun L => (L, st0)) = some (L', st')) : pL P L' ∧ pS P st' := by
  obtain ⟨a, h1, h2⟩ := q_map_some hp
  cases h2
  exact ⟨pL_lput hL hv h1, hs⟩
theorem p_stL (hL : pL P L) (hS : pS P st) (hs : stL ins L st = some (L', st')) : pL P L' ∧ pS P st' := by
  have li : ∀ k, q_lint L k st = some (L', st') → pL P L' ∧ pS P st' := by
    intro k hk
    unfold q_lint at hk
    split at hk
    · cases hk; exact ⟨hL, pS_c trivial hS⟩
    · cases hk
  have ll : ∀ k, q_llong L k st = some (L', st') → pL P L' ∧ pS P st' := by
    intro k hk
    unfold q_llong at hk
    split at hk
    · cases hk; exact ⟨hL, pS_c trivial hS⟩
    · cases hk
  have lr : ∀ k, q_lref L k st = some (L', st') → pL P L' ∧ pS P st' := by
    intro k hk
    unfold q_lref at hk
    split at hk
    · rename_i r hr
      split at hk
      · cases hk
      · cases hk; exact ⟨hL, pS_c (hL k _ hr) hS⟩
    · cases hk
  have si : ∀ k, q_sint L k st = some (L', st') → pL P L' ∧ pS P st' := by
    intro k hk
    unfold q_sint at hk
    split at hk
    · exact pL_mp (v := aI _) hL trivial (pS_t hS) hk
    · cases hk
  have sl : ∀ k, q_slong L k st = some (L', st') → pL P L' ∧ pS P st' := by
    intro k hk
    unfold q_slong at hk
    split at hk
    · exact pL_mp (v := aL _) hL trivial (pS_t hS) hk
    · cases hk
  have sr : ∀ k, q_sref L k st = some (L', st') → pL P L' ∧ pS P st' := by
    intro k hk
    unfold q_sref at hk
    split at hk
    · split at hk
      · cases hk
      · exact pL_mp hL (pS_h hS) (pS_t hS) hk
    · cases hk
  unfold stL at hs
  split at hs
  · exact li _ hs
  · exact li _ hs
  · exact ll _ hs
  · exact ll _ hs
  · exact lr _ hs
  · exact lr _ hs
  · exact si _ hs
  · exact si _ hs
  · exact sl _ hs
  · exact sl _ hs
  · exact sr _ hs
  · exact sr _ hs
  · split at hs
    · exact pL_mp (v := aI _) hL trivial hS hs
    · cases hs
  · cases hs
theorem p_stP (hS : pS P st) (hs : stP ins st = some st') : pS P st' := by
  unfold stP at hs
  split at hs
  all_goals first
    | (cases hs; exact pS_c trivial hS)
    | (cases hs; exact pS_c trivial (pS_t hS))
    | (cases hs; exact pS_c trivial (pS_t (pS_t hS)))
    | (split at hs <;> first | (cases hs; exact pS_c trivial (pS_t hS)) | (cases hs; exact pS_c trivial (pS_t (pS_t hS))) | (cases hs; exact pS_t hS) | (cases hs; exact pS_c (pS_h hS) hS) | (cases hs; exact pS_c (pS_h hS) (pS_c (pS_h (pS_t hS)) hS)) | cases hs)
    | cases hs
theorem p_stJ {pc' : Nat} (hS : pS P st) (hs : stJ ins pc st = some (pc', st')) : pS P st' := by
  have mp : ∀ {o : Option Nat} {f : Nat → Nat} {s : List AV}, o.map (fun t => (f t, s)) = some (pc', st') → pS P s → pS P st' := by
    intro o f s h1 h2
    obtain ⟨q, h3, h4⟩ := q_map_some h1
    cases h4
    exact h2
  unfold stJ at hs
  split at hs
  · exact mp (f := fun t => t) hs hS
  · split at hs
    · rename_i cc off y x st0 _
      exact mp (f := fun t => if q_cmp cc x y = true then t else pc + 3) hs (pS_t (pS_t hS))
    · cases hs
  · split at hs
    · rename_i cc off x st0 _
      exact mp (f := fun t => if q_cmp cc x 0 = true then t else pc + 3) hs (pS_t hS)
    · cases hs
  · split at hs
    · cases hs
    · cases hs; exact pS_t hS
  · split at hs
    · cases hs
    · exact mp (f := fun t => t) hs (pS_t hS)
  · split at hs
    · split at hs
      · exact mp (f := fun t => t) hs (pS_t hS)
      · split at hs
        · exact mp (f := fun t => t) hs (pS_t hS)
        · cases hs
    · cases hs
  · cases hs
theorem mrg_t {r : Nat} (h : P r = true) : mrg P c' c0 r = c' r := if_pos h
theorem mrg_f {r : Nat} (h : ¬ P r = true) : mrg P c' c0 r = c0 r := if_neg h
theorem mrg_self (h : ∀ r, P r = true → c0 r = c r) : mrg P c c0 = c0 := by
  funext r
  unfold mrg
  split
  · rename_i hr; exact (h r hr).symm
  · rfl
theorem mrg_uf {r : Nat} {f : Int → Int} (hr : P r = true) (h : ∀ r, P r = true → c0 r = c r) : mrg P (q_uf c r f) c0 = q_uf c0 r f := by
  funext x
  unfold mrg q_uf
  by_cases hx : x = r
  · rw [if_pos hx, if_pos hx, if_pos (by rw [hx]; exact hr)]
  · rw [if_neg hx, if_neg hx]
    split
    · rename_i h1; exact (h x h1).symm
    · rfl
def HP (P : Nat → Bool) (mi : Nat) (ins : Instr) (st st' : List AV) (G : GG) (c c' : CC) : Prop := pS P st' ∧ (∀ r, ¬ P r = true → c' r = c r) ∧ ∀ c0 : CC, (∀ r, P r = true → c0 r = c r) → stH mi ins st (G, c0) = some (st', (G, mrg P c' c0))
theorem q_ok_R {r k : Nat} (h : q_ok (G, c) r k = true) : okR G r k := by
  unfold q_ok at h
  obtain ⟨h1, h4⟩ := q_bool2 h
  obtain ⟨h1, h3⟩ := q_bool2 h1
  obtain ⟨h1, h2⟩ := q_bool2 h1
  exact ⟨of_decide_eq_true h1, of_decide_eq_true h2, of_decide_eq_true h3, of_decide_eq_true h4⟩
theorem HP_same {st1 : List AV} (hp : pS P st1) (hs : ∀ c0 : CC, (∀ r, P r = true → c0 r = c r) → stH mi ins st (G, c0) = some (st1, (G, c0))) (h : some (st1, ((G, c) : HH)) = some (st', h')) : ∃ c', h' = (G, c') ∧ HP P mi ins st st' G c c' := by
  cases h
  exact ⟨c, rfl, hp, fun r _ => rfl, fun c0 h0 => by rw [mrg_self h0]; exact hs c0 h0⟩
theorem HP_uf {st1 : List AV} {r : Nat} {f : Int → Int} (hr : P r = true) (hp : pS P st1) (hs : ∀ c0 : CC, (∀ r, P r = true → c0 r = c r) → stH mi ins st (G, c0) = some (st1, (G, q_uf c0 r f))) (h : some (st1, ((G, q_uf c r f) : HH)) = some (st', h')) : ∃ c', h' = (G, c') ∧ HP P mi ins st st' G c c' := by
  cases h
  refine ⟨q_uf c r f, rfl, hp, fun x hx => uf_n (fun e => hx (by rw [e]; exact hr)), fun c0 h0 => by rw [mrg_uf hr h0]; exact hs c0 h0⟩
set_option maxHeartbeats 1000000 in
theorem p_stH {len : Nat} (hcl : Cl P G) (hm : ¬ mi = q_law) (hc : chk mi pc = true) (hd : decode (mC mi) pc = .ok (ins, len)) (hS : pS P st) (hs : stH mi ins st (G, c) = some (st', h')) : ∃ c', h' = (G, c') ∧ HP P mi ins st st' G c c' := by
  unfold chk at hc
  rw [hd] at hc
  dsimp only at hc
  have hs0 := hs
  unfold stH at hs
  split at hs
  case h_1 i r st0 =>
    unfold q_get at hs
    split at hs
    · rename_i t ci k z hp
      split at hs
      · rename_i hg
        refine HP_same (pS_c ?_ (pS_t hS)) (fun c0 h0 => ?_) hs
        · split
          · rename_i h3
            exact hcl.1 r ci k (q_ok_R hg.2.2) (pS_h hS) hg.2.1 h3
          · split
            · trivial
            · trivial
        · show q_get mi i r st0 (G, c0) = _
          unfold q_get
          rw [hp]
          dsimp only
          rw [if_pos (show t = 0 ∧ k < q_N ci ∧ q_ok (G, c0) r ci = true from hg), h0 r (pS_h hS)]
      · cases hs
    · cases hs
  case h_2 i v r st0 =>
    unfold q_put at hs
    split at hs
    · rename_i t ci k z hp
      dsimp only at hc
      rw [hp] at hc
      have hft : q_ft ci k < 3 := of_decide_eq_true hc
      have hr : P r = true := pS_h (pS_t hS)
      split at hs
      · rename_i hg
        split at hs
        · split at hs
          · rename_i x hg2
            refine HP_uf hr (pS_t (pS_t hS)) (fun c0 h0 => ?_) hs
            show q_put mi i (.inl x) r st0 (G, c0) = _
            unfold q_put
            rw [hp]
            dsimp only
            rw [if_pos (show t = 0 ∧ k < q_N ci ∧ q_ok (G, c0) r ci = true ∧ _ from hg), if_pos hg2]
            show some (st0, (G, q_uf c0 r (q_u1 (c0 r) k x))) = _
            rw [h0 r hr]
          · cases hs
        · split at hs
          · rename_i x hg2
            refine HP_uf hr (pS_t (pS_t hS)) (fun c0 h0 => ?_) hs
            show q_put mi i (.inr (.inl x)) r st0 (G, c0) = _
            unfold q_put
            rw [hp]
            dsimp only
            rw [if_pos (show t = 0 ∧ k < q_N ci ∧ q_ok (G, c0) r ci = true ∧ _ from hg), if_pos hg2]
            show some (st0, (G, q_uf c0 r (q_u1 (c0 r) k x))) = _
            rw [h0 r hr]
          · cases hs
        · split at hs
          · omega
          · cases hs
      · cases hs
    · cases hs
  case h_3 i r st0 =>
    split at hs
    · rw [if_neg (fun q => hm q.1)] at hs; cases hs
    · rename_i hr
      split at hs
      · rename_i hg
        refine HP_same (pS_c (v := aI _) trivial (pS_t (pS_t hS))) (fun c0 h0 => ?_) hs
        show (if r = q_S then _ else if q_ok (G, c0) r 20 && q_ix (G, c0) r i then some (aI (c0 r i) :: st0, (G, c0)) else none) = _
        rw [if_neg hr, if_pos (show (q_ok (G, c0) r 20 && q_ix (G, c0) r i) = true from hg), h0 r (pS_h (pS_t hS))]
      · cases hs
  case h_4 i r st0 =>
    split at hs
    · rename_i hg
      refine HP_same (pS_c (v := aL _) trivial (pS_t (pS_t hS))) (fun c0 h0 => ?_) hs
      show (if q_ok (G, c0) r 21 && q_ix (G, c0) r i then some (aL (c0 r i) :: st0, (G, c0)) else none) = _
      rw [if_pos (show (q_ok (G, c0) r 21 && q_ix (G, c0) r i) = true from hg), h0 r (pS_h (pS_t hS))]
    · cases hs
  case h_5 i r st0 =>
    split at hs
    · rename_i hg
      refine HP_same (pS_c (v := aI _) trivial (pS_t (pS_t hS))) (fun c0 h0 => ?_) hs
      show (if (q_ok (G, c0) r 22 || q_ok (G, c0) r 23) && q_ix (G, c0) r i then some (aI (c0 r i) :: st0, (G, c0)) else none) = _
      rw [if_pos (show ((q_ok (G, c0) r 22 || q_ok (G, c0) r 23) && q_ix (G, c0) r i) = true from hg), h0 r (pS_h (pS_t hS))]
    · cases hs
  case h_6 i r st0 =>
    split at hs
    · rename_i hg
      have hg0 := hg
      obtain ⟨g1, g2⟩ := q_bool2 hg
      refine HP_same (pS_c ?_ (pS_t (pS_t hS))) (fun c0 h0 => ?_) hs
      · refine hcl.2 r i.toNat ?_ (pS_h (pS_t hS)) ?_
        · rw [Bool.or_eq_true] at g1
          exact g1.imp q_ok_R q_ok_R
        · unfold q_ix at g2
          obtain ⟨g3, g4⟩ := q_bool2 g2
          obtain ⟨g3, g5⟩ := q_bool2 g3
          have h5 : i < ((G.2.2.1 r).2 : Int) := of_decide_eq_true g5
          have h3 : 0 ≤ i := of_decide_eq_true g3
          omega
      · show (if (q_ok (G, c0) r 24 || q_ok (G, c0) r 25) && q_ix (G, c0) r i then some (aR (gF (G, c0) r i.toNat) :: st0, (G, c0)) else none) = _
        rw [if_pos (show ((q_ok (G, c0) r 24 || q_ok (G, c0) r 25) && q_ix (G, c0) r i) = true from hg0)]
    · cases hs
  case h_7 x i r st0 =>
    split at hs
    · rename_i hg
      have hr : P r = true := pS_h (pS_t (pS_t hS))
      refine HP_uf hr (pS_t (pS_t (pS_t hS))) (fun c0 h0 => ?_) hs
      show (if q_ok (G, c0) r 20 && q_ix (G, c0) r i then some (st0, (G, q_uf c0 r (q_u1 (c0 r) i x))) else none) = _
      rw [if_pos (show (q_ok (G, c0) r 20 && q_ix (G, c0) r i) = true from hg), h0 r hr]
    · cases hs
  case h_8 x i r st0 =>
    split at hs
    · rename_i hg
      have hr : P r = true := pS_h (pS_t (pS_t hS))
      refine HP_uf hr (pS_t (pS_t (pS_t hS))) (fun c0 h0 => ?_) hs
      show (if q_ok (G, c0) r 21 && q_ix (G, c0) r i then some (st0, (G, q_uf c0 r (q_u1 (c0 r) i x))) else none) = _
      rw [if_pos (show (q_ok (G, c0) r 21 && q_ix (G, c0) r i) = true from hg), h0 r hr]
    · cases hs
  case h_9 x i r st0 =>
    split at hs
    · rename_i hg
      have hr : P r = true := pS_h (pS_t (pS_t hS))
      refine HP_uf hr (pS_t (pS_t (pS_t hS))) (fun c0 h0 => ?_) hs
      show (if (q_ok (G, c0) r 22 || q_ok (G, c0) r 23) && q_ix (G, c0) r i then some (st0, (G, q_uf c0 r (q_u1 (c0 r) i (q_nar (gS (G, c0) r).1 x)))) else none) = _
      rw [if_pos (show ((q_ok (G, c0) r 22 || q_ok (G, c0) r 23) && q_ix (G, c0) r i) = true from hg), h0 r hr]
    · cases hs
  case h_10 => exact absurd hc (by simp)
  case h_11 r st0 =>
    split at hs
    · first | cases hs | (split at hs <;> first | (rename_i hq; exact absurd hq hm) | cases hs)
    · rename_i hr
      split at hs
      · rename_i hg
        refine HP_same (pS_c (v := aI _) trivial (pS_t hS)) (fun c0 h0 => ?_) hs
        show (if r = q_S then _ else if q_ok (G, c0) r 20 || q_ok (G, c0) r 21 || q_ok (G, c0) r 22 || q_ok (G, c0) r 23 || q_ok (G, c0) r 24 || q_ok (G, c0) r 25 then some (aI ((gS (G, c0) r).2 : Int) :: st0, (G, c0)) else none) = _
        rw [if_neg hr, if_pos (show (q_ok (G, c0) r 20 || q_ok (G, c0) r 21 || q_ok (G, c0) r 22 || q_ok (G, c0) r 23 || q_ok (G, c0) r 24 || q_ok (G, c0) r 25) = true from hg)]
      · cases hs
  case h_12 st0 i =>
    split at hs
    · rename_i t ci z1 z2 hp
      dsimp only at hc
      rw [hp] at hc
      have ht : t = 17 := of_decide_eq_true hc
      rw [if_neg (by omega)] at hs
      cases hs
    · cases hs
  case h_13 => exact absurd hc (by simp)
  case h_14 => exact absurd hc (by simp)
  case h_15 st0 i =>
    split at hs
    · rename_i t z1 z2 z hp
      split at hs
      · rename_i hg
        refine HP_same (pS_c (v := aI _) trivial hS) (fun c0 h0 => ?_) hs
        unfold stH
        dsimp only
        rw [hp]
        exact if_pos hg
      · cases hs
    · cases hs
  case h_16 st0 i =>
    split at hs
    · rename_i t z1 z2 z hp
      split at hs
      · rename_i hg
        refine HP_same (pS_c (v := aI _) trivial hS) (fun c0 h0 => ?_) hs
        unfold stH
        dsimp only
        rw [hp]
        exact if_pos hg
      · cases hs
    · cases hs
  case h_17 st0 i =>
    split at hs
    · rename_i t z1 z2 z hp
      split at hs
      · rename_i hg
        refine HP_same (pS_c (v := aL _) trivial hS) (fun c0 h0 => ?_) hs
        unfold stH
        dsimp only
        rw [hp]
        exact if_pos hg
      · cases hs
    · cases hs
  case h_18 st0 i =>
    split at hs
    · rename_i t z1 z2 z r st1 hp
      split at hs
      · rename_i hg
        refine HP_same (pS_t hS) (fun c0 h0 => ?_) hs
        unfold stH
        dsimp only
        rw [hp]
        exact if_pos hg
      · cases hs
    · cases hs
  case h_19 st0 i =>
    split at hs
    · rename_i t z1 z2 z hp
      split at hs
      · rename_i ht
        unfold q_ac at hs
        split at hs
        · rename_i n dp dr sp a st1
          split at hs
          · rename_i hg
            have hr : P dr = true := pS_h (pS_t (pS_t hS))
            have ha : P a = true := pS_h (pS_t (pS_t (pS_t (pS_t hS))))
            refine HP_uf hr (pS_t (pS_t (pS_t (pS_t (pS_t hS))))) (fun c0 h0 => ?_) hs
            unfold stH
            dsimp only
            rw [hp]
            dsimp only
            rw [if_pos ht]
            unfold q_ac
            dsimp only
            rw [if_pos (show ((q_ok (G, c0) a 20 = true ∧ q_ok (G, c0) dr 20 = true) ∨ (q_ok (G, c0) a 21 = true ∧ q_ok (G, c0) dr 21 = true)) ∧ 0 ≤ n ∧ 0 ≤ dp ∧ 0 ≤ sp ∧ sp + n ≤ ((gS (G, c0) a).2 : Int) ∧ dp + n ≤ ((gS (G, c0) dr).2 : Int) ∧ n < 3000 ∧ sp < 3000 ∧ dp < 3000 ∧ q_csum st1 ≤ 20 from hg)]
            show some (st1, (G, q_uf c0 dr (q_cp (c0 a) (c0 dr) sp dp n))) = _
            rw [h0 a ha, h0 dr hr]
          · cases hs
        · cases hs
      · rename_i ht
        dsimp only at hc
        rw [hp] at hc
        dsimp only at hc
        obtain ⟨hc1, _⟩ := q_bool2 hc
        have hc2 := of_decide_eq_true hc1
        rw [if_neg hc2.1] at hs
        split at hs
        · rename_i ht3
          split at hs
          · rename_i y x st1
            split at hs
            · rename_i hg
              refine HP_same (pS_c (v := aI _) trivial (pS_t (pS_t hS))) (fun c0 h0 => ?_) hs
              unfold stH
              dsimp only
              rw [hp]
              dsimp only
              rw [if_neg ht, if_neg hc2.1, if_pos ht3, if_pos hg]
            · cases hs
          · cases hs
        · cases hs
    · cases hs
  case h_20 => cases hs
theorem p_ent {k : Nat} {as : List AV} (h : pS P as) : pL P (q_ent k as) := by
  have h1 : ∀ (l : List AV) (i : Nat) (v : AV), pS P l → (q_al l)[i]? = some (some v) → pV P v := by
    intro l
    induction l with
    | nil => intro i v _ hi; simp [q_al] at hi
    | cons w l ih =>
      intro i v hl hi
      unfold q_al at hi
      split at hi
      · match i, hi with
        | 0, hi => simp at hi; rw [← hi]; exact pS_h hl
        | 1, hi => simp at hi
        | i + 2, hi => simp at hi; exact ih i v (pS_t hl) hi
      · match i, hi with
        | 0, hi => simp at hi; rw [← hi]; exact pS_h hl
        | i + 1, hi => simp at hi; exact ih i v (pS_t hl) hi
  intro i v hv
  unfold lg q_ent at hv
  rw [List.getElem?_append] at hv
  split at hv
  · rename_i w hw
    cases hv
    split at hw
    · exact h1 as i v h hw
    · rw [List.getElem?_replicate] at hw
      split at hw <;> cases hw
  · cases hv
theorem q_ok_c0 {r k : Nat} : q_ok (G, c0) r k = q_ok (G, c) r k := rfl
theorem recv_c0 {t k : Nat} {as : List AV} : q_recv (G, c0) t k as = q_recv (G, c) t k as := by
  unfold q_recv
  rfl
theorem p_stJ_s {pc' len : Nat} (hs : stJ ins pc st = some (pc', st')) : pc' ∈ sucs ins pc len := by
  have tg : ∀ {off : Int} {t : Nat}, q_tgt pc off = some t → t ∈ tg1 pc off := by
    intro off t h
    unfold tg1
    rw [h]
    exact List.mem_singleton.mpr rfl
  unfold stJ at hs
  split at hs
  · obtain ⟨q, h1, h2⟩ := q_map_some hs
    cases h2
    exact tg h1
  · split at hs
    · obtain ⟨q, h1, h2⟩ := q_map_some hs
      cases h2
      show (if _ then q else pc + 3) ∈ (pc + 3) :: tg1 pc _
      split
      · exact List.mem_cons_of_mem _ (tg h1)
      · exact List.mem_cons_self
    · cases hs
  · split at hs
    · obtain ⟨q, h1, h2⟩ := q_map_some hs
      cases h2
      show (if _ then q else pc + 3) ∈ (pc + 3) :: tg1 pc _
      split
      · exact List.mem_cons_of_mem _ (tg h1)
      · exact List.mem_cons_self
    · cases hs
  · split at hs
    · cases hs
    · cases hs; exact List.mem_cons_self
  · split at hs
    · cases hs
    · obtain ⟨q, h1, h2⟩ := q_map_some hs
      cases h2
      exact tg h1
  · split at hs
    · split at hs
      · obtain ⟨q, h1, h2⟩ := q_map_some hs
        cases h2
        exact List.mem_append_left _ (tg h1)
      · split at hs
        · rename_i dflt lo hi offs x st0 _ _ _ off ho
          obtain ⟨q, h1, h2⟩ := q_map_some hs
          cases h2
          refine List.mem_append_right _ (List.mem_flatMap.mpr ⟨off, ?_, tg h1⟩)
          exact Array.mem_toList_iff.mpr (Array.mem_of_getElem? ho)
        · cases hs
    · cases hs
  · cases hs
theorem sucs_n {len : Nat} (h : stJ ins pc st = none → True) (hL : (∃ q, stL ins L st = some q) ∨ (∃ q, stP ins st = some q) ∨ (∃ q, stH mi ins st (G, c) = some q) ∨ (∃ q, stC mi ins st = some q)) : pc + len ∈ sucs ins pc len := by
  unfold sucs
  split
  case h_7 => exact List.mem_singleton.mpr rfl
  all_goals
    exfalso
    rcases hL with ⟨q, hq⟩ | ⟨q, hq⟩ | ⟨q, hq⟩ | ⟨q, hq⟩
    · exact absurd hq (by simp [stL])
    · exact absurd hq (by simp [stP])
    · exact absurd hq (by simp [stH])
    · exact absurd hq (by simp [stC])
end SPF3
