/-! numbers -/
theorem q_in_iff {x : Int} (h : q_in x = true) : -2147483648 ≤ x ∧ x < 2147483648 := by simpa [q_in] using h
theorem q_in_of {x : Int} (h1 : -2147483648 ≤ x) (h2 : x < 2147483648) : q_in x = true := by simp [q_in, h1, h2]
theorem q_tI {x : Int} (h : q_in x = true) : (Int32.ofInt x).toInt = x := by
  obtain ⟨h1, h2⟩ := q_in_iff h
  exact Int32.toInt_ofInt_of_le (by omega) (by omega)
theorem q_tI8 {x : Int} (h : q_in8 x = true) : (Int64.ofInt x).toInt = x := by
  have h1 : -9223372036854775808 ≤ x ∧ x < 9223372036854775808 := by simpa [q_in8] using h
  exact Int64.toInt_ofInt_of_le (by omega) (by omega)
theorem q_ltI {x y : Int} (hx : q_in x = true) (hy : q_in y = true) : Int32.ofInt x < Int32.ofInt y ↔ x < y := by rw [Int32.lt_iff_toInt_lt, q_tI hx, q_tI hy]
theorem q_leI {x y : Int} (hx : q_in x = true) (hy : q_in y = true) : Int32.ofInt x ≤ Int32.ofInt y ↔ x ≤ y := by rw [Int32.le_iff_toInt_le, q_tI hx, q_tI hy]
theorem q_eqI {x y : Int} (hx : q_in x = true) (hy : q_in y = true) : Int32.ofInt x = Int32.ofInt y ↔ x = y := by rw [← Int32.toInt_inj, q_tI hx, q_tI hy]
theorem q_nng {i : Int} {n : Nat} (h0 : 0 ≤ i) (h1 : i < (n : Int)) (hn : n ≤ 3072) : vp_in (Int32.ofInt i) n ∧ (Int32.ofInt i).toNatClampNeg = i.toNat := by
  have hi : q_in i = true := q_in_of (by omega) (by omega)
  refine ⟨vp_in_iff.mpr (by rw [q_tI hi]; exact ⟨h0, h1⟩), ?_⟩
  show (Int32.ofInt i).toInt.toNat = i.toNat
  rw [q_tI hi]
theorem q_0 : Int32.ofInt 0 = 0 := rfl
section Q2
variable {p : Program} {l : Launch} {e : Env} {R : Room} {s : State} {m : MethodId} {args : Array Value} {below : List Frame} {meth : Method} {c : Code} {Q : State → Prop} {Z : ZZ} {D : va_G} {sc : Nat × (Nat → Int32)} {mi d pc pc' len : Nat} {ins : Instr} {L L' : LV} {st st' : List AV} {h h' : HH} {cells slots : Nat}
set_option maxHeartbeats 4000000 in
theorem q_simP (F : q_Fx p R s m args meth c Z D sc mi d) (hd : decode (mC mi) pc = .ok (ins, len)) (hl : q_ln ins len = true) (hs : stP ins st = some st') (k : q_At p l e R s m args below meth c Q Z D sc h (pc + len) L st' cells slots) : q_At p l e R s m args below meth c Q Z D sc h pc L st cells slots := by
  obtain ⟨hx, hb, hml, hown, hts, hlocks, hret, hinit, hfr, hlo, hvm, hZs, hlaw, hex⟩ := F
  intro H locs Ls hL hW
  have k1 := k H locs Ls hL hW
  clear k
  unfold stP at hs
  split at hs
  case h_1 x st0 =>
    cases hs; have e : len = 1 := by simpa [q_ln] using hl
    subst e
    exact lv_iconst hx hb hd rfl k1
  case h_2 x st0 =>
    cases hs; have e : len = 2 := by simpa [q_ln] using hl
    subst e
    exact lv_bipush hx hb hd (Int32.ofInt_int8ToInt _).symm k1
  case h_3 x st0 =>
    cases hs; have e : len = 3 := by simpa [q_ln] using hl
    subst e
    exact lv_sipush hx hb hd (Int32.ofInt_int16ToInt _).symm k1
  case h_4 st0 x =>
    cases hs; have e : len = 1 := by simpa [q_ln] using hl
    subst e
    refine lv_lconst hx hb hd ?_ k1
    match x with
    | 0 => rfl
    | 1 => rfl
  case h_5 v st0 =>
    split at hs
    · rename_i hc; cases hs; have e : len = 1 := by simpa [q_ln] using hl
      subst e
      exact lv_dup hx hb hd (by rw [cv_cat]; exact hc) k1
    · cases hs
  case h_6 v w st0 =>
    split at hs
    · rename_i hc; cases hs; have e : len = 1 := by simpa [q_ln] using hl
      subst e
      exact lv_dup2_11 hx hb hd (by rw [cv_cat]; exact hc.1) (by rw [cv_cat]; exact hc.2) k1
    · cases hs
  case h_7 v st0 =>
    split at hs
    · rename_i hc; cases hs; have e : len = 1 := by simpa [q_ln] using hl
      subst e
      exact lv_pop hx hb hd (by rw [cv_cat]; exact hc) k1
    · cases hs
  case h_8 y x st0 =>
    cases hs; have e : len = 1 := by simpa [q_ln] using hl
    subst e
    simp only [List.map_cons, cv, Int32.ofInt_add] at k1
    exact lv_iadd hx hb hd k1
  case h_9 y x st0 =>
    cases hs; have e : len = 1 := by simpa [q_ln] using hl
    subst e
    simp only [List.map_cons, cv, Int32.ofInt_sub] at k1
    exact lv_isub hx hb hd k1
  case h_10 y x st0 =>
    cases hs; have e : len = 1 := by simpa [q_ln] using hl
    subst e
    simp only [List.map_cons, cv, Int32.ofInt_mul] at k1
    exact lv_imul hx hb hd k1
  case h_11 y x st0 =>
    split at hs
    · cases hs
    · rename_i hn; cases hs; have e : len = 1 := by simpa [q_ln] using hl
      subst e
      simp only [List.map_cons, cv, q_rem, Int32.ofInt_toInt] at k1
      exact lv_irem hx hb hd hn k1
  case h_12 y x st0 =>
    cases hs; have e : len = 1 := by simpa [q_ln] using hl
    subst e
    simp only [List.map_cons, cv, q_and, Int32.ofInt_toInt] at k1
    exact lv_iand hx hb hd k1
  case h_13 y x st0 =>
    cases hs; have e : len = 1 := by simpa [q_ln] using hl
    subst e
    simp only [List.map_cons, cv, q_or, Int32.ofInt_toInt] at k1
    exact lv_ior hx hb hd k1
  case h_14 y x st0 =>
    cases hs; have e : len = 1 := by simpa [q_ln] using hl
    subst e
    simp only [List.map_cons, cv, q_xor, Int32.ofInt_toInt] at k1
    exact lv_ixor hx hb hd k1
  case h_15 y x st0 =>
    cases hs; have e : len = 1 := by simpa [q_ln] using hl
    subst e
    simp only [List.map_cons, cv, q_shl, Int32.ofInt_toInt] at k1
    exact lv_ishl hx hb hd k1
  case h_16 y x st0 =>
    cases hs; have e : len = 1 := by simpa [q_ln] using hl
    subst e
    simp only [List.map_cons, cv, q_shr, Int32.ofInt_toInt] at k1
    exact lv_ishr hx hb hd k1
  case h_17 y x st0 =>
    cases hs; have e : len = 1 := by simpa [q_ln] using hl
    subst e
    simp only [List.map_cons, cv, q_ush, Int32.ofInt_toInt] at k1
    exact lv_iushr hx hb hd rfl k1
  case h_18 x st0 =>
    split at hs
    · rename_i hi; cases hs; have e : len = 1 := by simpa [q_ln] using hl
      subst e
      refine lv_i2l (v := Int64.ofInt x) hx hb hd ?_ k1
      rw [← Int64.ofInt_int32ToInt, q_tI hi]
    · cases hs
  case h_19 x st0 =>
    cases hs; have e : len = 1 := by simpa [q_ln] using hl
    subst e
    simp only [List.map_cons, cv, q_i2b, Int32.ofInt_toInt] at k1
    exact lv_i2b hx hb hd rfl k1
  case h_20 y x st0 =>
    cases hs; have e : len = 1 := by simpa [q_ln] using hl
    subst e
    simp only [List.map_cons, cv, Int64.ofInt_add] at k1
    exact lv_ladd hx hb hd k1
  case h_21 y x st0 =>
    cases hs; have e : len = 1 := by simpa [q_ln] using hl
    subst e
    simp only [List.map_cons, cv, Int64.ofInt_mul] at k1
    exact lv_lmul hx hb hd k1
  case h_22 y x st0 =>
    cases hs; have e : len = 1 := by simpa [q_ln] using hl
    subst e
    simp only [List.map_cons, cv, q_lor, Int64.ofInt_toInt] at k1
    exact lv_lor hx hb hd k1
  case h_23 y x st0 =>
    cases hs; have e : len = 1 := by simpa [q_ln] using hl
    subst e
    simp only [List.map_cons, cv, q_lshl, Int64.ofInt_toInt] at k1
    exact lv_lshl hx hb hd rfl k1
  case h_24 y x st0 =>
    split at hs
    · rename_i hi
      cases hs; have e : len = 1 := by simpa [q_ln] using hl
      subst e
      simp only [Bool.and_eq_true] at hi
      refine W.lcmp hx hb hd ?_
      have e2 : lg_cmp (Int64.ofInt x) (Int64.ofInt y) = Int32.ofInt (if x < y then -1 else if x = y then 0 else 1) := by
        unfold lg_cmp
        have h1 : Int64.ofInt x < Int64.ofInt y ↔ x < y := by rw [Int64.lt_iff_toInt_lt, q_tI8 hi.1, q_tI8 hi.2]
        have h2 : Int64.ofInt x = Int64.ofInt y ↔ x = y := by rw [← Int64.toInt_inj, q_tI8 hi.1, q_tI8 hi.2]
        have h3 : Int64.ofInt y < Int64.ofInt x ↔ y < x := by rw [Int64.lt_iff_toInt_lt, q_tI8 hi.1, q_tI8 hi.2]
        simp only [h1, h2, h3]
        repeat' split
        all_goals first | rfl | omega
      rw [e2]
      exact k1
    · cases hs
  case h_25 => cases hs
theorem q_tgt_eq {off : Int} {t : Nat} (h : q_tgt pc off = some t) : (pc : Int) + off = (t : Int) := by
  unfold q_tgt at h
  split at h
  · cases h; omega
  · cases h
theorem q_map_some {α β : Type} {o : Option α} {f : α → β} {b : β} (h : o.map f = some b) : ∃ a, o = some a ∧ f a = b := by
  cases o with
  | none => cases h
  | some a => exact ⟨a, rfl, Option.some.inj h⟩
set_option maxHeartbeats 4000000 in
theorem q_simJ (F : q_Fx p R s m args meth c Z D sc mi d) (hd : decode (mC mi) pc = .ok (ins, len)) (hl : q_ln ins len = true) (hs : stJ ins pc st = some (pc', st')) (k : q_At p l e R s m args below meth c Q Z D sc h pc' L st' cells slots) : q_At p l e R s m args below meth c Q Z D sc h pc L st cells slots := by
  obtain ⟨hx, hb, hml, hown, hts, hlocks, hret, hinit, hfr, hlo, hvm, hZs, hlaw, hex⟩ := F
  intro H locs Ls hL hW
  have k1 := k H locs Ls hL hW
  clear k
  unfold stJ at hs
  split at hs
  case h_1 off st0 =>
    have e : len = 3 := by simpa [q_ln] using hl
    subst e
    obtain ⟨t, ht, he⟩ := q_map_some hs
    cases he
    exact lv_goto hx hb hd (q_tgt_eq ht) k1
  case h_2 cnd off y x st0 =>
    have e : len = 3 := by simpa [q_ln] using hl
    subst e
    split at hs
    · rename_i hi
      simp only [Bool.and_eq_true] at hi
      obtain ⟨ix, iy⟩ := hi
      have hlt := q_ltI ix iy
      have hle := q_leI ix iy
      have hlt2 := q_ltI iy ix
      have hle2 := q_leI iy ix
      have heq := q_eqI ix iy
      obtain ⟨t, ht, he⟩ := q_map_some hs
      cases he
      cases cnd
      · refine lv_icmp_eq hx hb hd (q_tgt_eq ht) (fun z => ?_) (fun z => ?_)
        · simpa [q_cmp, heq.mp z] using k1
        · simpa only [q_cmp, decide_eq_true_eq, if_neg (fun w => z (heq.mpr w))] using k1
      · refine lv_icmp_ne hx hb hd (q_tgt_eq ht) (fun z => ?_) (fun z => ?_)
        · simpa only [q_cmp, decide_eq_true_eq, if_pos (show ¬ x = y from fun w => z (heq.mpr w))] using k1
        · simpa only [q_cmp, decide_eq_true_eq, if_neg (show ¬ ¬ x = y from fun w => w (heq.mp z))] using k1
      · refine lv_icmp_lt hx hb hd (q_tgt_eq ht) (fun z => ?_) (fun z => ?_)
        · simpa only [q_cmp, decide_eq_true_eq, if_pos (hlt.mp z)] using k1
        · simpa only [q_cmp, decide_eq_true_eq, if_neg (fun w => z (hlt.mpr w))] using k1
      · refine lv_icmp_ge hx hb hd (q_tgt_eq ht) (fun z => ?_) (fun z => ?_)
        · simpa only [q_cmp, decide_eq_true_eq, if_pos (hle2.mp z)] using k1
        · simpa only [q_cmp, decide_eq_true_eq, if_neg (fun w => z (hle2.mpr w))] using k1
      · refine lv_icmp_gt hx hb hd (q_tgt_eq ht) (fun z => ?_) (fun z => ?_)
        · simpa only [q_cmp, decide_eq_true_eq, if_pos (hlt2.mp z)] using k1
        · simpa only [q_cmp, decide_eq_true_eq, if_neg (fun w => z (hlt2.mpr w))] using k1
      · refine lv_icmp_le hx hb hd (q_tgt_eq ht) (fun z => ?_) (fun z => ?_)
        · simpa only [q_cmp, decide_eq_true_eq, if_pos (hle.mp z)] using k1
        · simpa only [q_cmp, decide_eq_true_eq, if_neg (fun w => z (hle.mpr w))] using k1
    · cases hs
  case h_3 cnd off x st0 =>
    have e : len = 3 := by simpa [q_ln] using hl
    subst e
    split at hs
    · rename_i ix
      have iy : q_in 0 = true := by decide
      have hlt := q_ltI ix iy
      have hle := q_leI ix iy
      have hlt2 := q_ltI iy ix
      have hle2 := q_leI iy ix
      have heq := q_eqI ix iy
      rw [q_0] at hlt hle hlt2 hle2 heq
      obtain ⟨t, ht, he⟩ := q_map_some hs
      cases he
      cases cnd
      · refine lv_if_eq hx hb hd (q_tgt_eq ht) (fun z => ?_) (fun z => ?_)
        · simpa [q_cmp, heq.mp z] using k1
        · simpa only [q_cmp, decide_eq_true_eq, if_neg (fun w => z (heq.mpr w))] using k1
      · refine lv_if_ne hx hb hd (q_tgt_eq ht) (fun z => ?_) (fun z => ?_)
        · simpa only [q_cmp, decide_eq_true_eq, if_pos (show ¬ x = 0 from fun w => z (heq.mpr w))] using k1
        · simpa only [q_cmp, decide_eq_true_eq, if_neg (show ¬ ¬ x = 0 from fun w => w (heq.mp z))] using k1
      · refine lv_if_lt hx hb hd (q_tgt_eq ht) (fun z => ?_) (fun z => ?_)
        · simpa only [q_cmp, decide_eq_true_eq, if_pos (hlt.mp z)] using k1
        · simpa only [q_cmp, decide_eq_true_eq, if_neg (fun w => z (hlt.mpr w))] using k1
      · refine lv_if_ge hx hb hd (q_tgt_eq ht) (fun z => ?_) (fun z => ?_)
        · simpa only [q_cmp, decide_eq_true_eq, if_pos (hle2.mp z)] using k1
        · simpa only [q_cmp, decide_eq_true_eq, if_neg (fun w => z (hle2.mpr w))] using k1
      · refine lv_if_gt hx hb hd (q_tgt_eq ht) (fun z => ?_) (fun z => ?_)
        · simpa only [q_cmp, decide_eq_true_eq, if_pos (hlt2.mp z)] using k1
        · simpa only [q_cmp, decide_eq_true_eq, if_neg (fun w => z (hlt2.mpr w))] using k1
      · refine lv_if_le hx hb hd (q_tgt_eq ht) (fun z => ?_) (fun z => ?_)
        · simpa only [q_cmp, decide_eq_true_eq, if_pos (hle.mp z)] using k1
        · simpa only [q_cmp, decide_eq_true_eq, if_neg (fun w => z (hle.mpr w))] using k1
    · cases hs
  case h_4 off r st0 =>
    have e : len = 3 := by simpa [q_ln] using hl
    subst e
    split at hs
    · cases hs
    · rename_i hr
      cases hs
      obtain ⟨a, ha⟩ := cR_pos (Z := Z) hr
      have h3 : cv Z (aR r) = Value.ref a := ha
      rw [List.map_cons, h3]
      exact lv_ifnull hx hb hd k1
  case h_5 off r st0 =>
    have e : len = 3 := by simpa [q_ln] using hl
    subst e
    split at hs
    · cases hs
    · rename_i hr
      obtain ⟨t, ht, he⟩ := q_map_some hs
      cases he
      obtain ⟨a, ha⟩ := cR_pos (Z := Z) hr
      have h3 : cv Z (aR r) = Value.ref a := ha
      rw [List.map_cons, h3]
      exact lv_ifnonnull hx hb hd (q_tgt_eq ht) k1
  case h_6 dflt lo hi offs x st0 =>
    split at hs
    · rename_i ix
      split at hs
      · rename_i ho
        obtain ⟨t, ht, he⟩ := q_map_some hs
        cases he
        exact lv_tableOut hx hb hd (by rw [q_tI ix]; exact ho) (q_tgt_eq ht) k1
      · rename_i ho
        split at hs
        · rename_i off hoff
          obtain ⟨t, ht, he⟩ := q_map_some hs
          cases he
          exact lv_tableIn hx hb hd (by rw [q_tI ix]; omega) (by rw [q_tI ix]; omega) (by rw [q_tI ix]; exact hoff) (q_tgt_eq ht) k1
        · cases hs
    · cases hs
  case h_7 => cases hs
end Q2
