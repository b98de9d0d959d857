section SPaa
variable {m K k js v t x y j j0 i N : Int} {cu sg L PL f g : Int → Int} {al : Int → Int → Prop}
theorem sum1 (h0 : 0 ≤ i) (h1 : i < N) : sumI (fun j => if j = i then (1 : Int) else 0) N = 1 := by
  have h := sumI_u (f := fun _ => (0 : Int)) (g := fun j => if j = i then (1 : Int) else 0) (i := i) (n := N) h0 h1 (fun q _ _ hq => if_neg hq)
  have z : sumI (fun _ => (0 : Int)) N = 0 := by
    have a := sumI_lo (f := fun _ => (0 : Int)) (n := N) (lo := 0) (by omega) (fun _ _ _ => by show (0 : Int) ≤ 0; omega)
    have b := sumI_hi (f := fun _ => (0 : Int)) (n := N) (hi := 0) (by omega) (fun _ _ _ => by show (0 : Int) ≤ 0; omega)
    omega
  have e : (if i = i then (1 : Int) else 0) = 1 := if_pos rfl
  have h' : sumI (fun j => if j = i then (1 : Int) else 0) N = sumI (fun _ => (0 : Int)) N + ((if i = i then (1 : Int) else 0) - 0) := h
  rw [h', z, e]; omega
theorem sum_ge (h0 : 0 ≤ i) (h1 : i < N) (h : ∀ j, 0 ≤ j → j < N → 0 ≤ f j) (hi : 1 ≤ f i) : 1 ≤ sumI f N := by
  have a := sumI_le (f := fun j => if j = i then (1 : Int) else 0) (g := f) (n := N) (fun j p1 p2 => by
    show (if j = i then (1 : Int) else 0) ≤ f j
    by_cases hj : j = i
    · rw [if_pos hj, hj]; exact hi
    · rw [if_neg hj]; exact h j p1 p2)
  rw [sum1 h0 h1] at a
  exact a
def cntI (f : Int → Int) (m x : Int) : Int := sumI (fun j => if f j = x then 1 else 0) m
theorem cnt_in (T : Int → Prop) [DecidablePred T] (hm : 0 ≤ m) (hf : ∀ j, 0 ≤ j → j < m → 0 ≤ f j ∧ f j < K) : sumI (fun x => if T x then cntI f m x else 0) K = sumI (fun j => if T (f j) then 1 else 0) m := by
  have key : ∀ i, 0 ≤ i → i ≤ m → sumI (fun x => if T x then cntI f i x else 0) K = sumI (fun j => if T (f j) then 1 else 0) i := by
    refine int_up ?_ ?_
    · rw [sumI_0 (show (0 : Int) ≤ 0 by omega)]
      have e : sumI (fun x => if T x then cntI f 0 x else 0) K = sumI (fun _ => 0) K := sumI_c (fun x _ _ => by
        show (if T x then cntI f 0 x else 0) = 0
        have : cntI f 0 x = 0 := sumI_0 (by omega)
        rw [this]; split <;> rfl)
      rw [e]
      by_cases hK : 0 ≤ K
      · have a := sumI_lo (f := fun _ => (0 : Int)) (n := K) (lo := 0) hK (fun _ _ _ => by show (0 : Int) ≤ 0; omega)
        have b := sumI_hi (f := fun _ => (0 : Int)) (n := K) (hi := 0) hK (fun _ _ _ => by show (0 : Int) ≤ 0; omega)
        omega
      · exact sumI_0 (by omega)
    · intro i p1 p2 ih
      rw [sumI_s p1, ← ih]
      have fi := hf i p1 p2
      have h := sumI_u (f := fun x => if T x then cntI f i x else 0) (g := fun x => if T x then cntI f (i + 1) x else 0) (i := f i) (n := K) fi.1 fi.2 (fun q _ _ hq => by
        show (if T q then cntI f (i + 1) q else 0) = if T q then cntI f i q else 0
        have e : cntI f (i + 1) q = cntI f i q := by
          show sumI _ (i + 1) = sumI _ i
          rw [sumI_s p1, if_neg (by omega)]; omega
        rw [e])
      have e : cntI f (i + 1) (f i) = cntI f i (f i) + 1 := by
        show sumI _ (i + 1) = sumI _ i + 1
        rw [sumI_s p1, if_pos rfl]
      have h' : sumI (fun x => if T x then cntI f (i + 1) x else 0) K = sumI (fun x => if T x then cntI f i x else 0) K + ((if T (f i) then cntI f (i + 1) (f i) else 0) - (if T (f i) then cntI f i (f i) else 0)) := h
      rw [h', e]
      by_cases hT : T (f i)
      · rw [if_pos hT, if_pos hT, if_pos hT]; omega
      · rw [if_neg hT, if_neg hT, if_neg hT]; omega
  exact key m hm (by omega)
theorem leaver (T : Int → Prop) [DecidablePred T] (hK : 0 ≤ K) (hj : 0 ≤ js ∧ js < m) (hc : ∀ j, 0 ≤ j → j < m → 0 ≤ cu j ∧ cu j < K) (hs : ∀ j, 0 ≤ j → j < m → 0 ≤ sg j ∧ sg j < K) (hp : ∀ x, 0 ≤ x → x < K → cntI sg m x ≤ PL x) (hf : ∀ x, 0 ≤ x → x < K → T x → PL x - cntI cu m x + (if x = cu js then 1 else 0) ≤ 0) (hk : T (sg js)) : ∃ j, 0 ≤ j ∧ j < m ∧ ¬ j = js ∧ T (cu j) ∧ ¬ T (sg j) := by
  have a := cnt_in (f := sg) (K := K) (m := m) T (by omega) hs
  have b := cnt_in (f := cu) (K := K) (m := m) T (by omega) hc
  have le : sumI (fun x => if T x then cntI sg m x else 0) K ≤ sumI (fun x => (if T x then cntI cu m x else 0) + (if x = cu js then (if T (cu js) then -1 else 0) else 0)) K := sumI_le (fun x p1 p2 => by
    show (if T x then cntI sg m x else 0) ≤ (if T x then cntI cu m x else 0) + (if x = cu js then (if T (cu js) then -1 else 0) else 0)
    have h1 := hp x p1 p2
    by_cases hT : T x
    · have h2 := hf x p1 p2 hT
      rw [if_pos hT, if_pos hT]
      by_cases hx : x = cu js
      · rw [if_pos hx] at h2 ⊢
        rw [if_pos (by rw [← hx]; exact hT)]; omega
      · rw [if_neg hx] at h2 ⊢; omega
    · rw [if_neg hT, if_neg hT]
      by_cases hx : x = cu js
      · rw [if_pos hx, if_neg (by rw [← hx]; exact hT)]; omega
      · rw [if_neg hx]; omega)
  rw [sumI_add, a, b] at le
  have cj := hc js hj.1 hj.2
  have e1 : sumI (fun x => if x = cu js then (if T (cu js) then (-1 : Int) else 0) else 0) K = if T (cu js) then -1 else 0 := by
    have h := sumI_u (f := fun _ => (0 : Int)) (g := fun x => if x = cu js then (if T (cu js) then (-1 : Int) else 0) else 0) (i := cu js) (n := K) cj.1 cj.2 (fun q _ _ hq => if_neg hq)
    have z : sumI (fun _ => (0 : Int)) K = 0 := by
      have a := sumI_lo (f := fun _ => (0 : Int)) (n := K) (lo := 0) hK (fun _ _ _ => by show (0 : Int) ≤ 0; omega)
      have b := sumI_hi (f := fun _ => (0 : Int)) (n := K) (hi := 0) hK (fun _ _ _ => by show (0 : Int) ≤ 0; omega)
      omega
    have h' : sumI (fun x => if x = cu js then (if T (cu js) then (-1 : Int) else 0) else 0) K = sumI (fun _ => (0 : Int)) K + ((if cu js = cu js then (if T (cu js) then (-1 : Int) else 0) else 0) - 0) := h
    rw [h', z, if_pos rfl]; omega
  rw [e1] at le
  by_cases hex : ∃ j, 0 ≤ j ∧ j < m ∧ ¬ j = js ∧ T (cu j) ∧ ¬ T (sg j)
  · exact hex
  · exfalso
    have le2 : sumI (fun j => (if T (cu j) then (1 : Int) else 0) + (if j = js then (1 - (if T (cu js) then 1 else 0)) else 0)) m ≤ sumI (fun j => if T (sg j) then (1 : Int) else 0) m := sumI_le (fun j p1 p2 => by
      show (if T (cu j) then (1 : Int) else 0) + (if j = js then (1 - (if T (cu js) then 1 else 0)) else 0) ≤ if T (sg j) then (1 : Int) else 0
      by_cases hjj : j = js
      · rw [if_pos hjj, hjj, if_pos hk]; omega
      · rw [if_neg hjj]
        by_cases hT : T (cu j)
        · have hT2 : T (sg j) := by
            by_cases hT2 : T (sg j)
            · exact hT2
            · exact absurd ⟨j, p1, p2, hjj, hT, hT2⟩ hex
          rw [if_pos hT, if_pos hT2]; omega
        · rw [if_neg hT]; split <;> omega)
    rw [sumI_add] at le2
    have e2 : sumI (fun j => if j = js then (1 - (if T (cu js) then (1 : Int) else 0)) else 0) m = 1 - (if T (cu js) then 1 else 0) := by
      have h := sumI_u (f := fun _ => (0 : Int)) (g := fun j => if j = js then (1 - (if T (cu js) then (1 : Int) else 0)) else 0) (i := js) (n := m) hj.1 hj.2 (fun q _ _ hq => if_neg hq)
      have z : sumI (fun _ => (0 : Int)) m = 0 := by
        have a := sumI_lo (f := fun _ => (0 : Int)) (n := m) (lo := 0) (by omega) (fun _ _ _ => by show (0 : Int) ≤ 0; omega)
        have b := sumI_hi (f := fun _ => (0 : Int)) (n := m) (hi := 0) (by omega) (fun _ _ _ => by show (0 : Int) ≤ 0; omega)
        omega
      have h' : sumI (fun j => if j = js then (1 - (if T (cu js) then (1 : Int) else 0)) else 0) m = sumI (fun _ => (0 : Int)) m + ((if js = js then (1 - (if T (cu js) then (1 : Int) else 0)) else 0) - 0) := h
      rw [h', z, if_pos rfl]; omega
    rw [e2] at le2
    by_cases hT : T (cu js)
    · rw [if_pos hT] at le le2; omega
    · rw [if_neg hT] at le le2; omega
def chgI (cu sg : Int → Int) (m : Int) : Int := sumI (fun j => if sg j = cu j then 0 else 1) m
def LvC (al : Int → Int → Prop) (cu L : Int → Int) (m K js k v : Int) : Prop := (∀ x, 0 ≤ x → x < K → 0 ≤ L x ∧ L x ≤ v) ∧ L k = 1 ∧ (∀ x, 0 ≤ x → x < K → L x = 1 → x = k) ∧ (∀ x, 0 ≤ x → x < K → 2 ≤ L x → ∃ j, 0 ≤ j ∧ j < m ∧ ¬ j = js ∧ L (cu j) = L x - 1 ∧ al j x) ∧ ∀ j, 0 ≤ j → j < m → ¬ j = js → 1 ≤ L (cu j) → L (cu j) < v → ∀ y, 0 ≤ y → y < K → al j y → 1 ≤ L y ∧ L y ≤ L (cu j) + 1
theorem chg_low (hK : 0 ≤ K) (hj : 0 ≤ js ∧ js < m) (hc : ∀ j, 0 ≤ j → j < m → 0 ≤ cu j ∧ cu j < K) (hs : ∀ j, 0 ≤ j → j < m → (0 ≤ sg j ∧ sg j < K) ∧ al j (sg j)) (hp : ∀ x, 0 ≤ x → x < K → cntI sg m x ≤ PL x) (hL : LvC al cu L m K js k v) (hf : ∀ x, 0 ≤ x → x < K → 1 ≤ L x → L x < v → PL x - cntI cu m x + (if x = cu js then 1 else 0) ≤ 0) (hk : sg js = k) (hne : ¬ cu js = k) (hv : 1 ≤ v) : v ≤ chgI cu sg m := by
  obtain ⟨l1, l2, l3, l4, l5⟩ := hL
  have lv : ∀ t, 1 ≤ t → t < v → ∃ j, 0 ≤ j ∧ j < m ∧ ¬ j = js ∧ L (cu j) = t ∧ ¬ sg j = cu j := by
    intro t t1 t2
    obtain ⟨j, p1, p2, p3, p4, p5⟩ := leaver (K := K) (PL := PL) (fun x => 1 ≤ L x ∧ L x ≤ t) hK hj hc (fun j p1 p2 => (hs j p1 p2).1) hp (fun x p1 p2 hT => hf x p1 p2 hT.1 (by have := hT.2; omega)) (by
      show 1 ≤ L (sg js) ∧ L (sg js) ≤ t
      rw [hk, l2]; omega)
    have p4 : 1 ≤ L (cu j) ∧ L (cu j) ≤ t := p4
    have p5 : ¬ (1 ≤ L (sg j) ∧ L (sg j) ≤ t) := p5
    have sj := hs j p1 p2
    have c5 := l5 j p1 p2 p3 p4.1 (by omega) (sg j) sj.1.1 sj.1.2 sj.2
    refine ⟨j, p1, p2, p3, by omega, fun z => p5 (by rw [z]; exact p4)⟩
  have acc : ∀ t, 0 ≤ t → t ≤ v - 1 → t ≤ sumI (fun j => if ¬ j = js ∧ ¬ sg j = cu j ∧ 1 ≤ L (cu j) ∧ L (cu j) ≤ t then (1 : Int) else 0) m := by
    refine int_up ?_ ?_
    · exact sumI_ge0 (fun j _ _ => by show (0 : Int) ≤ if _ then 1 else 0; split <;> omega)
    · intro t t1 t2 ih
      have e : sumI (fun j => if ¬ j = js ∧ ¬ sg j = cu j ∧ 1 ≤ L (cu j) ∧ L (cu j) ≤ t + 1 then (1 : Int) else 0) m = sumI (fun j => (if ¬ j = js ∧ ¬ sg j = cu j ∧ 1 ≤ L (cu j) ∧ L (cu j) ≤ t then (1 : Int) else 0) + (if ¬ j = js ∧ ¬ sg j = cu j ∧ L (cu j) = t + 1 then (1 : Int) else 0)) m := sumI_c (fun j p1 p2 => by
        show (if ¬ j = js ∧ ¬ sg j = cu j ∧ 1 ≤ L (cu j) ∧ L (cu j) ≤ t + 1 then (1 : Int) else 0) = (if ¬ j = js ∧ ¬ sg j = cu j ∧ 1 ≤ L (cu j) ∧ L (cu j) ≤ t then (1 : Int) else 0) + (if ¬ j = js ∧ ¬ sg j = cu j ∧ L (cu j) = t + 1 then (1 : Int) else 0)
        by_cases h1 : ¬ j = js ∧ ¬ sg j = cu j
        · by_cases h2 : L (cu j) = t + 1
          · rw [if_pos ⟨h1.1, h1.2, by omega, by omega⟩, if_neg (by omega), if_pos ⟨h1.1, h1.2, h2⟩]; omega
          · by_cases h3 : 1 ≤ L (cu j) ∧ L (cu j) ≤ t
            · rw [if_pos ⟨h1.1, h1.2, h3.1, by omega⟩, if_pos ⟨h1.1, h1.2, h3.1, h3.2⟩, if_neg (by omega)]; omega
            · rw [if_neg (by omega), if_neg (by omega), if_neg (by omega)]; omega
        · rw [if_neg (by omega), if_neg (by omega), if_neg (by omega)]; omega)
      rw [e, sumI_add]
      obtain ⟨j, p1, p2, p3, p4, p5⟩ := lv (t + 1) (by omega) (by omega)
      have one := sum_ge (f := fun j => if ¬ j = js ∧ ¬ sg j = cu j ∧ L (cu j) = t + 1 then (1 : Int) else 0) (N := m) p1 p2 (fun j _ _ => by show (0 : Int) ≤ if _ then 1 else 0; split <;> omega) (by
        show 1 ≤ if ¬ j = js ∧ ¬ sg j = cu j ∧ L (cu j) = t + 1 then (1 : Int) else 0
        rw [if_pos ⟨p3, p5, p4⟩]; omega)
      omega
  have a := acc (v - 1) (by omega) (by omega)
  have le := sumI_le (f := fun j => (if ¬ j = js ∧ ¬ sg j = cu j ∧ 1 ≤ L (cu j) ∧ L (cu j) ≤ v - 1 then (1 : Int) else 0) + (if j = js then (1 : Int) else 0)) (g := fun j => if sg j = cu j then 0 else 1) (n := m) (fun j p1 p2 => by
    show (if ¬ j = js ∧ ¬ sg j = cu j ∧ 1 ≤ L (cu j) ∧ L (cu j) ≤ v - 1 then (1 : Int) else 0) + (if j = js then (1 : Int) else 0) ≤ if sg j = cu j then 0 else 1
    by_cases h : sg j = cu j
    · have hjj : ¬ j = js := fun z => hne (by rw [← hk, ← z, h])
      rw [if_neg (by omega), if_neg hjj, if_pos h]; omega
    · rw [if_neg h]
      by_cases hjj : j = js
      · rw [if_neg (by omega), if_pos hjj]; omega
      · rw [if_neg hjj]; split <;> omega)
  rw [sumI_add, sum1 hj.1 hj.2] at le
  have e : chgI cu sg m = sumI (fun j => if sg j = cu j then 0 else 1) m := rfl
  omega
theorem no_way (hK : 0 ≤ K) (hj : 0 ≤ js ∧ js < m) (hc : ∀ j, 0 ≤ j → j < m → 0 ≤ cu j ∧ cu j < K) (hs : ∀ j, 0 ≤ j → j < m → (0 ≤ sg j ∧ sg j < K) ∧ al j (sg j)) (hp : ∀ x, 0 ≤ x → x < K → cntI sg m x ≤ PL x) (hL : LvC al cu L m K js k (K + 1)) (hf : ∀ x, 0 ≤ x → x < K → 1 ≤ L x → L x < K + 1 → PL x - cntI cu m x + (if x = cu js then 1 else 0) ≤ 0) (hk : sg js = k) (hkb : 0 ≤ k ∧ k < K) : False := by
  obtain ⟨l1, l2, l3, l4, l5⟩ := hL
  obtain ⟨j, p1, p2, p3, p4, p5⟩ := leaver (K := K) (PL := PL) (fun x => 1 ≤ L x ∧ L x ≤ K) hK hj hc (fun j p1 p2 => (hs j p1 p2).1) hp (fun x p1 p2 hT => hf x p1 p2 hT.1 (by have := hT.2; omega)) (by
    show 1 ≤ L (sg js) ∧ L (sg js) ≤ K
    rw [hk, l2]; omega)
  have p4 : 1 ≤ L (cu j) ∧ L (cu j) ≤ K := p4
  have p5 : ¬ (1 ≤ L (sg j) ∧ L (sg j) ≤ K) := p5
  have sj := hs j p1 p2
  have c5 := l5 j p1 p2 p3 p4.1 (by omega) (sg j) sj.1.1 sj.1.2 sj.2
  have ne : ∀ (n : Nat) (t : Int), t = K + 1 - n → 1 ≤ t → ∃ x, 0 ≤ x ∧ x < K ∧ L x = t := by
    intro n
    induction n with
    | zero => intro t ht t1; exact ⟨sg j, sj.1.1, sj.1.2, by omega⟩
    | succ n ih =>
      intro t ht t1
      obtain ⟨x, x1, x2, x3⟩ := ih (t + 1) (by omega) (by omega)
      obtain ⟨j', q1, q2, q3, q4, q5⟩ := l4 x x1 x2 (by omega)
      have cj := hc j' q1 q2
      exact ⟨cu j', cj.1, cj.2, by omega⟩
  have acc : ∀ t, 0 ≤ t → t ≤ K + 1 → t ≤ sumI (fun x => if 1 ≤ L x ∧ L x ≤ t then (1 : Int) else 0) K := by
    refine int_up ?_ ?_
    · exact sumI_ge0 (fun j _ _ => by show (0 : Int) ≤ if _ then 1 else 0; split <;> omega)
    · intro t t1 t2 ih
      have e : sumI (fun x => if 1 ≤ L x ∧ L x ≤ t + 1 then (1 : Int) else 0) K = sumI (fun x => (if 1 ≤ L x ∧ L x ≤ t then (1 : Int) else 0) + (if L x = t + 1 then (1 : Int) else 0)) K := sumI_c (fun x q1 q2 => by
        show (if 1 ≤ L x ∧ L x ≤ t + 1 then (1 : Int) else 0) = (if 1 ≤ L x ∧ L x ≤ t then (1 : Int) else 0) + (if L x = t + 1 then (1 : Int) else 0)
        by_cases h2 : L x = t + 1
        · rw [if_pos (by omega), if_neg (by omega), if_pos h2]; omega
        · by_cases h3 : 1 ≤ L x ∧ L x ≤ t
          · rw [if_pos (by omega), if_pos h3, if_neg h2]; omega
          · rw [if_neg (by omega), if_neg h3, if_neg h2]; omega)
      rw [e, sumI_add]
      obtain ⟨x, x1, x2, x3⟩ := ne (K + 1 - (t + 1)).toNat (t + 1) (by omega) (by omega)
      have one := sum_ge (f := fun x => if L x = t + 1 then (1 : Int) else 0) (N := K) x1 x2 (fun j _ _ => by show (0 : Int) ≤ if _ then 1 else 0; split <;> omega) (by
        show 1 ≤ if L x = t + 1 then (1 : Int) else 0
        rw [if_pos x3]; omega)
      omega
  have a := acc (K + 1) (by omega) (by omega)
  have b := sumI_hi (f := fun x => if 1 ≤ L x ∧ L x ≤ K + 1 then (1 : Int) else 0) (n := K) (hi := 1) hK (fun x _ _ => by show (if 1 ≤ L x ∧ L x ≤ K + 1 then (1 : Int) else 0) ≤ 1; split <;> omega)
  omega
theorem chain (hj : 0 ≤ js ∧ js < m) (hL : LvC al cu L m K js k v) (hal : ∀ j, 0 ≤ j → j < m → al j (cu j)) (hk : al js k) (hkb : 0 ≤ k ∧ k < K) (hc : ∀ j, 0 ≤ j → j < m → 0 ≤ cu j ∧ cu j < K) (hne : ¬ cu js = k) : ∀ (n : Nat) (x : Int), 0 ≤ x → x < K → L x = n + 1 → ∃ sg : Int → Int, (∀ j, 0 ≤ j → j < m → (0 ≤ sg j ∧ sg j < K) ∧ al j (sg j)) ∧ sg js = k ∧ (∀ y, cntI sg m y = cntI cu m y + (if y = x then 1 else 0) - (if y = cu js then 1 else 0)) ∧ chgI cu sg m = n + 1 ∧ ∀ j, 0 ≤ j → j < m → ¬ j = js → (n : Int) + 1 ≤ L (cu j) → sg j = cu j := by
  obtain ⟨l1, l2, l3, l4, l5⟩ := hL
  have upd : ∀ (sg : Int → Int) (j0 x : Int), 0 ≤ j0 → j0 < m → sg j0 = cu j0 → ¬ x = cu j0 → (∀ y, cntI (q_u1 sg j0 x) m y = cntI sg m y + (if y = x then 1 else 0) - (if y = cu j0 then 1 else 0)) ∧ chgI cu (q_u1 sg j0 x) m = chgI cu sg m + 1 := by
    intro sg j0 x h0 h1 e hx
    refine ⟨fun y => ?_, ?_⟩
    · have h := sumI_u (f := fun j => if sg j = y then (1 : Int) else 0) (g := fun j => if q_u1 sg j0 x j = y then (1 : Int) else 0) (i := j0) (n := m) h0 h1 (fun q _ _ hq => by
        show (if q_u1 sg j0 x q = y then (1 : Int) else 0) = if sg q = y then 1 else 0
        rw [u1_n hq])
      have h' : cntI (q_u1 sg j0 x) m y = cntI sg m y + ((if q_u1 sg j0 x j0 = y then (1 : Int) else 0) - (if sg j0 = y then (1 : Int) else 0)) := h
      rw [u1_e, e] at h'
      rw [h']
      have e1 : (if x = y then (1 : Int) else 0) = if y = x then 1 else 0 := by
        by_cases hh : x = y
        · rw [if_pos hh, if_pos hh.symm]
        · rw [if_neg hh, if_neg (fun z => hh z.symm)]
      have e2 : (if cu j0 = y then (1 : Int) else 0) = if y = cu j0 then 1 else 0 := by
        by_cases hh : cu j0 = y
        · rw [if_pos hh, if_pos hh.symm]
        · rw [if_neg hh, if_neg (fun z => hh z.symm)]
      rw [e1, e2]; omega
    · have h := sumI_u (f := fun j => if sg j = cu j then (0 : Int) else 1) (g := fun j => if q_u1 sg j0 x j = cu j then (0 : Int) else 1) (i := j0) (n := m) h0 h1 (fun q _ _ hq => by
        show (if q_u1 sg j0 x q = cu q then (0 : Int) else 1) = if sg q = cu q then 0 else 1
        rw [u1_n hq])
      have h' : chgI cu (q_u1 sg j0 x) m = chgI cu sg m + ((if q_u1 sg j0 x j0 = cu j0 then (0 : Int) else 1) - (if sg j0 = cu j0 then (0 : Int) else 1)) := h
      rw [u1_e, if_neg hx, if_pos e] at h'
      rw [h']; omega
  intro n
  induction n with
  | zero =>
    intro x x1 x2 hx
    have ex := l3 x x1 x2 (by omega)
    obtain ⟨u1, u2⟩ := upd cu js k hj.1 hj.2 rfl (fun z => hne z.symm)
    have z0 : chgI cu cu m = 0 := by
      have e : chgI cu cu m = sumI (fun _ => 0) m := sumI_c (fun j _ _ => by show (if cu j = cu j then (0 : Int) else 1) = 0; rw [if_pos rfl])
      rw [e]
      have a := sumI_lo (f := fun _ => (0 : Int)) (n := m) (lo := 0) (by omega) (fun _ _ _ => by show (0 : Int) ≤ 0; omega)
      have b := sumI_hi (f := fun _ => (0 : Int)) (n := m) (hi := 0) (by omega) (fun _ _ _ => by show (0 : Int) ≤ 0; omega)
      omega
    refine ⟨q_u1 cu js k, fun j p1 p2 => ?_, u1_e, fun y => by rw [u1 y, ex], by rw [u2, z0]; rfl, fun j p1 p2 p3 _ => u1_n p3⟩
    by_cases hjj : j = js
    · rw [hjj, u1_e]; exact ⟨hkb, hk⟩
    · rw [u1_n hjj]; exact ⟨hc j p1 p2, hal j p1 p2⟩
  | succ n ih =>
    intro x x1 x2 hx
    obtain ⟨j0, q1, q2, q3, q4, q5⟩ := l4 x x1 x2 (by omega)
    have c0 := hc j0 q1 q2
    obtain ⟨sg, s1, s2, s3, s4, s5⟩ := ih (cu j0) c0.1 c0.2 (by omega)
    have e0 := s5 j0 q1 q2 q3 (by omega)
    obtain ⟨u1, u2⟩ := upd sg j0 x q1 q2 e0 (fun z => by rw [z] at q4; omega)
    refine ⟨q_u1 sg j0 x, fun j p1 p2 => ?_, ?_, fun y => ?_, by rw [u2, s4]; omega, fun j p1 p2 p3 p4 => ?_⟩
    · by_cases hjj : j = j0
      · rw [hjj, u1_e]; exact ⟨⟨x1, x2⟩, q5⟩
      · rw [u1_n hjj]; exact s1 j p1 p2
    · rw [u1_n (fun z => q3 z.symm)]; exact s2
    · rw [u1 y, s3 y]; omega
    · rw [u1_n (fun z => by rw [z] at p4; omega)]
      exact s5 j p1 p2 p3 (by omega)
end SPaa
