/-! locals that nobody reads any more -/
section Q21
variable {mi d pc pc' len : Nat} {ins : Instr} {L L' L1 L1' : LV} {st st' : List AV} {h h' : HH} {i n : Nat} {v : AV} {o o' : Option AV}
def LeL (L L' : LV) : Prop := L.length = L'.length ∧ ∀ (i : Nat) (v : AV), lg L i = some v → lg L' i = some v
theorem leE : LeL [] [] := ⟨rfl, fun _ _ h => h⟩
theorem leL_refl (L : LV) : LeL L L := ⟨rfl, fun _ _ h => h⟩
theorem lg_zero (o : Option AV) (L : LV) : lg (o :: L) 0 = o := by
  unfold lg
  cases o <;> rfl
theorem lg_succ (o : Option AV) (L : LV) (i : Nat) : lg (o :: L) (i + 1) = lg L i := by
  unfold lg
  rw [List.getElem?_cons_succ]
theorem leS (h : LeL L L') : LeL (o :: L) (o :: L') := by
  refine ⟨by rw [List.length_cons, List.length_cons, h.1], fun i v hv => ?_⟩
  cases i with
  | zero => rw [lg_zero] at hv ⊢; exact hv
  | succ i => rw [lg_succ] at hv ⊢; exact h.2 i v hv
theorem leN (h : LeL L L') : LeL (none :: L) (o :: L') := by
  refine ⟨by rw [List.length_cons, List.length_cons, h.1], fun i v hv => ?_⟩
  cases i with
  | zero => rw [lg_zero] at hv; cases hv
  | succ i => rw [lg_succ] at hv ⊢; exact h.2 i v hv
theorem le_set (h : LeL L L') (w : Option AV) : LeL (L.set i w) (L'.set i w) := by
  refine ⟨by rw [List.length_set, List.length_set, h.1], fun j v hv => ?_⟩
  rw [lg_set] at hv ⊢
  rw [← h.1]
  by_cases hc : j = i ∧ i < L.length
  · rw [if_pos hc] at hv ⊢; exact hv
  · rw [if_neg hc] at hv ⊢; exact h.2 j v hv
theorem le_clob (h : LeL L L') : LeL (q_clob L i) (q_clob L' i) := by
  cases i with
  | zero => exact h
  | succ j =>
    refine ⟨by rw [q_clob_len, q_clob_len, h.1], fun k v hv => ?_⟩
    obtain ⟨h1, h2⟩ := q_clob_lg hv
    have h3 := h.2 k v h1
    show lg (match lg L' j with | some (.inr (.inl _)) => L'.set j none | _ => L') k = some v
    split
    · rename_i x hx
      rw [lg_set]
      by_cases hk : k = j ∧ j < L'.length
      · rw [hk.1] at h3
        rw [hx] at h3
        cases h3
        exact absurd ⟨by omega, rfl⟩ h2
      · rw [if_neg hk]; exact h3
    · exact h3
theorem le_lput (h : LeL L L') (hp : lput L i v = some L1) : ∃ L1', lput L' i v = some L1' ∧ LeL L1 L1' := by
  unfold lput at hp ⊢
  by_cases hc : q_cat v = 1
  · rw [if_pos hc] at hp ⊢
    split at hp
    · rename_i hi
      cases hp
      exact ⟨_, if_pos (by rw [← h.1]; exact hi), le_set (le_clob h) _⟩
    · cases hp
  · rw [if_neg hc] at hp ⊢
    split at hp
    · rename_i hi
      cases hp
      exact ⟨_, if_pos (by rw [← h.1]; exact hi), le_set (le_set (le_clob h) _) _⟩
    · cases hp
theorem le_mp {st0 : List AV} (h : LeL L L') (hp : (lput L i v).map (fun L => (L, st0)) = some (L1, st')) : ∃ L1', (lput L' i v).map (fun L => (L, st0)) = some (L1', st') ∧ LeL L1 L1' := by
  obtain ⟨a, ha, hb⟩ := q_map_some hp
  cases hb
  obtain ⟨b, h1, h2⟩ := le_lput h ha
  exact ⟨b, by rw [h1]; rfl, h2⟩
theorem le_stL (h : LeL L L') (hs : stL ins L st = some (L1, st')) : ∃ L1', stL ins L' st = some (L1', st') ∧ LeL L1 L1' := by
  have li : ∀ k : Nat, q_lint L k st = some (L1, st') → ∃ L1', q_lint L' k st = some (L1', st') ∧ LeL L1 L1' := by
    intro k hk
    unfold q_lint at hk ⊢
    split at hk
    · rename_i x hx; cases hk; rw [h.2 _ _ hx]; exact ⟨_, rfl, h⟩
    · cases hk
  have ll : ∀ k : Nat, q_llong L k st = some (L1, st') → ∃ L1', q_llong L' k st = some (L1', st') ∧ LeL L1 L1' := by
    intro k hk
    unfold q_llong at hk ⊢
    split at hk
    · rename_i x hx; cases hk; rw [h.2 _ _ hx]; exact ⟨_, rfl, h⟩
    · cases hk
  have lr : ∀ k : Nat, q_lref L k st = some (L1, st') → ∃ L1', q_lref L' k st = some (L1', st') ∧ LeL L1 L1' := by
    intro k hk
    unfold q_lref at hk ⊢
    split at hk
    · rename_i x hx
      rw [h.2 _ _ hx]
      dsimp only
      split at hk
      · cases hk
      · rename_i hr; cases hk; rw [if_neg hr]; exact ⟨_, rfl, h⟩
    · cases hk
  have si : ∀ k : Nat, q_sint L k st = some (L1, st') → ∃ L1', q_sint L' k st = some (L1', st') ∧ LeL L1 L1' := by
    intro k hk
    unfold q_sint at hk ⊢
    split at hk
    · exact le_mp h hk
    · cases hk
  have sl : ∀ k : Nat, q_slong L k st = some (L1, st') → ∃ L1', q_slong L' k st = some (L1', st') ∧ LeL L1 L1' := by
    intro k hk
    unfold q_slong at hk ⊢
    split at hk
    · exact le_mp h hk
    · cases hk
  have sr : ∀ k : Nat, q_sref L k st = some (L1, st') → ∃ L1', q_sref L' k st = some (L1', st') ∧ LeL L1 L1' := by
    intro k hk
    unfold q_sref at hk ⊢
    split at hk
    · split at hk
      · cases hk
      · rename_i hr; rw [if_neg hr]; exact le_mp h hk
    · cases hk
  cases ins <;> first | exact li _ hs | exact ll _ hs | exact lr _ hs | exact si _ hs | exact sl _ hs | exact sr _ hs | cases hs | skip
  case iinc k x =>
    unfold stL at hs ⊢
    dsimp only at hs ⊢
    split at hs
    · rename_i y hy
      rw [h.2 _ _ hy]
      exact le_mp h hs
    · cases hs
/-- what a run says of how it ended, locals left out -/
def q_eqo (o o' : OO) : Prop := match o, o' with | .inl a, .inl b => a = b | .inr a, .inr b => a.1 = b.1 | _, _ => False
theorem stL_none : stL ins L st = none → (∀ L' : LV, stL ins L' st = none) ∨ ((∀ st2, stP ins st2 = none) ∧ (∀ pc st2, stJ ins pc st2 = none) ∧ (∀ mi st2 h, stH mi ins st2 h = none) ∧ (∀ mi st2, stR mi ins st2 = none) ∧ (∀ mi st2, stC mi ins st2 = none) ∧ ∀ mi pc st2, stX mi pc ins st2 = false) := by
  intro hs
  cases ins <;> first | exact Or.inl (fun _ => rfl) | exact Or.inr ⟨fun _ => rfl, fun _ _ => rfl, fun _ _ _ => rfl, fun _ _ => rfl, fun _ _ => rfl, fun _ _ _ => rfl⟩
set_option maxHeartbeats 2000000 in
theorem ev_le : ∀ (n d mi pc : Nat) (L L' : LV) (st : List AV) (h : HH) (o : OO) (h' : HH), LeL L L' → ev n d mi pc L st h = some (o, h') → ∃ o' : OO, ev n d mi pc L' st h = some (o', h') ∧ q_eqo o o' := by
  intro n
  induction n with
  | zero => intro d mi pc L L' st h o h' hle he; cases he
  | succ n ih =>
    intro d mi pc L L' st h o h' hle he
    unfold ev at he
    unfold ev
    cases hd : decode (mC mi) pc with
    | error e => rw [hd] at he; cases he
    | ok q =>
      obtain ⟨ins, len⟩ := q
      rw [hd] at he
      dsimp only at he ⊢
      by_cases hl : q_ln ins len = false
      · rw [if_pos hl] at he; cases he
      rw [if_neg hl] at he ⊢
      cases h1 : stL ins L st with
      | some q =>
        obtain ⟨L1, st1⟩ := q
        rw [h1] at he
        obtain ⟨L1', h2, h3⟩ := le_stL hle h1
        rw [h2]
        exact ih _ _ _ _ _ _ _ _ _ h3 he
      | none =>
      rw [h1] at he
      rcases stL_none h1 with h0 | ⟨a1, a2, a3, a4, a5, a6⟩
      rotate_left
      · dsimp only at he
        rw [a1] at he
        dsimp only at he
        rw [a2] at he
        dsimp only at he
        rw [a3] at he
        dsimp only at he
        rw [a4] at he
        dsimp only at he
        rw [a5] at he
        dsimp only at he
        rw [a6] at he
        cases he
      rw [h0 L']
      dsimp only at he ⊢
      cases h2 : stP ins st with
      | some q => rw [h2] at he; exact ih _ _ _ _ _ _ _ _ _ hle he
      | none =>
      rw [h2] at he
      dsimp only at he ⊢
      cases h3 : stJ ins pc st with
      | some q => rw [h3] at he; exact ih _ _ _ _ _ _ _ _ _ hle he
      | none =>
      rw [h3] at he
      dsimp only at he ⊢
      cases h4 : stH mi ins st h with
      | some q => rw [h4] at he; exact ih _ _ _ _ _ _ _ _ _ hle he
      | none =>
      rw [h4] at he
      dsimp only at he ⊢
      cases h5 : stR mi ins st with
      | some q => rw [h5] at he; cases he; exact ⟨_, rfl, rfl⟩
      | none =>
      rw [h5] at he
      dsimp only at he ⊢
      cases h6 : stC mi ins st with
      | none =>
        rw [h6] at he
        dsimp only at he ⊢
        split at he
        · rename_i hx
          cases he
          rw [if_pos hx]
          exact ⟨_, rfl, rfl⟩
        · cases he
      | some q =>
        obtain ⟨t, k, as, rest⟩ := q
        rw [h6] at he
        dsimp only at he ⊢
        cases d with
        | zero => cases he
        | succ d' =>
          dsimp only at he ⊢
          by_cases ht : t = 13 ∨ t = 14
          · rw [if_pos ht] at he ⊢
            cases d' with
            | zero => cases he
            | succ d2 =>
              dsimp only at he ⊢
              split at he
              · split at he
                · rename_i hg
                  rw [if_pos hg]
                  split at he
                  · split at he
                    · rename_i hg2
                      rw [if_pos hg2]
                      exact ih _ _ _ _ _ _ _ _ _ hle he
                    · cases he
                  · exact ih _ _ _ _ _ _ _ _ _ hle he
                  · cases he
                · cases he
              · cases he
          · rw [if_neg ht] at he ⊢
            split at he
            · rename_i hg
              rw [if_pos hg]
              split at he
              · exact ih _ _ _ _ _ _ _ _ _ hle he
              · cases he
            · cases he
theorem T_le {Q : OO → HH → Prop} (hQ : ∀ o o' h', q_eqo o o' → Q o h' → Q o' h') (hle : LeL L L') (k : T d mi pc L st h Q) : T d mi pc L' st h Q := by
  obtain ⟨n, o, h', he, h1⟩ := k
  obtain ⟨o', h2, h3⟩ := ev_le _ _ _ _ _ _ _ _ _ _ hle he
  exact ⟨n, o', h', h2, hQ _ _ _ h3 h1⟩
end Q21
