section SPab
variable {S : SS} {m K k js v t x y j j0 i N s o b n : Int} {cu sg L PL f g way way' : Int → Int} {acc : Int × (Int → Int)}
def twN (S : SS) (s : Int) : Int × (Int → Int) := loopI (fun s p => if S (197 + s) = 0 then p else (p.1 + 1, q_u1 p.2 p.1 s)) s (0, fun _ => 0)
theorem tw_s (hs : 0 ≤ s) : twN S (s + 1) = if S (197 + s) = 0 then twN S s else ((twN S s).1 + 1, q_u1 (twN S s).2 (twN S s).1 s) := loopI_s hs
theorem tw_0 : twN S 0 = (0, fun _ => 0) := loopI_0 (by omega)
theorem tw_ok : ∀ s, 0 ≤ s → s ≤ N → (0 ≤ (twN S s).1 ∧ (twN S s).1 ≤ s) ∧ (∀ j, 0 ≤ j → j < (twN S s).1 → 0 ≤ (twN S s).2 j ∧ (twN S s).2 j < s ∧ ¬ S (197 + (twN S s).2 j) = 0) ∧ (∀ j i, 0 ≤ j → j < i → i < (twN S s).1 → (twN S s).2 j < (twN S s).2 i) ∧ (∀ o, 0 ≤ o → o < s → ¬ S (197 + o) = 0 → ∃ j, 0 ≤ j ∧ j < (twN S s).1 ∧ (twN S s).2 j = o) ∧ ∀ f : Int → Int, sumI (fun j => f ((twN S s).2 j)) (twN S s).1 = sumI (fun o => if S (197 + o) = 0 then 0 else f o) s := by
  refine int_up ?_ ?_
  · rw [tw_0]
    exact ⟨⟨Int.le_refl 0, Int.le_refl 0⟩, fun j h1 h2 => by exfalso; have : j < 0 := h2; omega, fun j i h1 h2 h3 => by exfalso; have : i < 0 := h3; omega, fun o h1 h2 => by omega, fun f => (show sumI (fun j => f ((((0 : Int), fun _ => (0 : Int)) : Int × (Int → Int)).2 j)) 0 = 0 from sumI_0 (by omega)).trans (show sumI (fun o => if S (197 + o) = 0 then 0 else f o) 0 = 0 from sumI_0 (by omega)).symm⟩
  · intro s h1 h2 ih
    obtain ⟨p0, p1, p2, p3, p4⟩ := ih
    have e := tw_s (S := S) h1
    by_cases hz : S (197 + s) = 0
    · rw [if_pos hz] at e
      rw [e]
      refine ⟨by omega, fun j j1 j2 => ?_, p2, fun o o1 o2 o3 => ?_, fun f => ?_⟩
      · have := p1 j j1 j2; exact ⟨this.1, by omega, this.2.2⟩
      · by_cases ho : o = s
        · rw [ho] at o3; exact absurd hz o3
        · exact p3 o o1 (by omega) o3
      · rw [sumI_s h1, if_pos hz, p4]; omega
    · rw [if_neg hz] at e
      have e1 : (twN S (s + 1)).1 = (twN S s).1 + 1 := by rw [e]
      have e2 : (twN S (s + 1)).2 = q_u1 (twN S s).2 (twN S s).1 s := by rw [e]
      rw [e1, e2]
      refine ⟨by omega, fun j j1 j2 => ?_, fun j i j1 j2 j3 => ?_, fun o o1 o2 o3 => ?_, fun f => ?_⟩
      · by_cases hj : j = (twN S s).1
        · rw [hj, u1_e]; exact ⟨h1, by omega, hz⟩
        · rw [u1_n hj]; have := p1 j j1 (by omega); exact ⟨this.1, by omega, this.2.2⟩
      · rw [u1_n (by omega)]
        by_cases hi : i = (twN S s).1
        · rw [hi, u1_e]; exact (p1 j j1 (by omega)).2.1
        · rw [u1_n hi]; exact p2 j i j1 j2 (by omega)
      · by_cases ho : o = s
        · exact ⟨(twN S s).1, by omega, by omega, by rw [u1_e, ho]⟩
        · obtain ⟨j, q1, q2, q3⟩ := p3 o o1 (by omega) o3
          exact ⟨j, q1, by omega, by rw [u1_n (by omega)]; exact q3⟩
      · rw [sumI_s h1, if_neg hz, sumI_s p0.1, u1_e, ← p4]
        have e3 : sumI (fun j => f (q_u1 (twN S s).2 (twN S s).1 s j)) (twN S s).1 = sumI (fun j => f ((twN S s).2 j)) (twN S s).1 := sumI_c (fun j q1 q2 => by
          show f (q_u1 (twN S s).2 (twN S s).1 s j) = f ((twN S s).2 j)
          rw [u1_n (by omega)])
        rw [e3]
def mT (S : SS) : Int := (twN S (S 1)).1
def wT (S : SS) : Int → Int := (twN S (S 1)).2
def cuT (S : SS) (j : Int) : Int := S (173 + wT S j) - 1
def kby (S : SS) (o d : Int) : Int := if d = 0 then S (173 + o) - 1 else if S (173 + o) - 1 < d then d else d - 1
def dgy (S : SS) (o x : Int) : Int := if x = S (173 + o) - 1 then 0 else if x < S (173 + o) - 1 then x + 1 else x
def sgW (S : SS) (way : Int → Int) (j : Int) : Int := kby S (wT S j) (way j)
def alT (S : SS) (j x : Int) : Prop := bt (S (51 + wT S j)) x = 1
def Feas (S : SS) (s k : Int) (way : Int → Int) : Prop := (∀ j, 0 ≤ j → j < mT S → alT S j (sgW S way j) ∧ (wT S j = s → sgW S way j = k)) ∧ ∀ x, 0 ≤ x → x < S 0 → cntI (sgW S way) (mT S) x ≤ S (9 + x)
def chW (way : Int → Int) (m : Int) : Int := sumI (fun j => if 0 < way j then 1 else 0) m
def Box (way : Int → Int) (m K : Int) : Prop := ∀ j, 0 ≤ j → j < m → 0 ≤ way j ∧ way j < K
theorem mT_b (hR : InvR S) : 0 ≤ mT S ∧ mT S ≤ S 1 := by
  have g := hR.1
  exact (tw_ok (S := S) (N := S 1) (S 1) (by omega) (by omega)).1
theorem wT_b (hR : InvR S) (hI : InvL S) (h1 : 0 ≤ j) (h2 : j < mT S) : (0 ≤ wT S j ∧ wT S j < S 1) ∧ S (197 + wT S j) = 1 ∧ (1 ≤ S (173 + wT S j) ∧ S (173 + wT S j) ≤ S 0) ∧ bt (S (51 + wT S j)) (S (173 + wT S j) - 1) = 1 := by
  have g := hR.1
  have a := (tw_ok (S := S) (N := S 1) (S 1) (by omega) (by omega)).2.1 j h1 h2
  have e : wT S j = (twN S (S 1)).2 j := rfl
  rw [← e] at a
  have b := hI.1 (wT S j) a.1 (by omega)
  have c := hI.2.1 (wT S j) a.1 (by omega)
  refine ⟨⟨a.1, a.2.1⟩, by omega, ⟨by omega, b.2.1⟩, c (by omega)⟩
theorem wT_all (hR : InvR S) (h1 : 0 ≤ o) (h2 : o < S 1) (h3 : ¬ S (197 + o) = 0) : ∃ j, 0 ≤ j ∧ j < mT S ∧ wT S j = o := by
  have g := hR.1
  exact (tw_ok (S := S) (N := S 1) (S 1) (by omega) (by omega)).2.2.2.1 o h1 h2 h3
theorem wT_inj (hR : InvR S) (h1 : 0 ≤ j) (h2 : j < mT S) (h3 : 0 ≤ i) (h4 : i < mT S) (e : wT S j = wT S i) : j = i := by
  have g := hR.1
  have a := (tw_ok (S := S) (N := S 1) (S 1) (by omega) (by omega)).2.2.1
  by_cases h : j < i
  · have := a j i h1 h h4
    have e' : (twN S (S 1)).2 j = (twN S (S 1)).2 i := e
    omega
  · by_cases h' : i < j
    · have := a i j h3 h' h2
      have e' : (twN S (S 1)).2 j = (twN S (S 1)).2 i := e
      omega
    · omega
theorem cuT_b (hR : InvR S) (hI : InvL S) (h1 : 0 ≤ j) (h2 : j < mT S) : 0 ≤ cuT S j ∧ cuT S j < S 0 := by
  have := (wT_b hR hI h1 h2).2.2.1
  unfold cuT; omega
theorem room_cnt (hR : InvR S) (hI : InvL S) : room S x = S (9 + x) - cntI (cuT S) (mT S) x := by
  have g := hR.1
  have a := (tw_ok (S := S) (N := S 1) (S 1) (by omega) (by omega)).2.2.2.2 (fun o => if S (173 + o) - 1 = x then 1 else 0)
  have e : cntI (cuT S) (mT S) x = sumI (fun j => (fun o => if S (173 + o) - 1 = x then (1 : Int) else 0) ((twN S (S 1)).2 j)) (twN S (S 1)).1 := rfl
  rw [e, a]
  unfold room
  rw [sumI_c (f := isAs S x) (g := fun o => if S (197 + o) = 0 then 0 else if S (173 + o) - 1 = x then 1 else 0) (fun o h1 h2 => by
    show isAs S x o = if S (197 + o) = 0 then 0 else if S (173 + o) - 1 = x then 1 else 0
    have b := hI.1 o h1 (by omega)
    unfold isAs
    by_cases hz : S (197 + o) = 0
    · rw [if_neg (by omega), if_pos hz]
    · rw [if_neg hz]
      by_cases hx : S (173 + o) - 1 = x
      · rw [if_pos (by omega), if_pos hx]
      · rw [if_neg (by omega), if_neg hx])]
theorem sgW_b (hR : InvR S) (hI : InvL S) (hw : Box way (mT S) (S 0)) (h1 : 0 ≤ j) (h2 : j < mT S) : (0 ≤ sgW S way j ∧ sgW S way j < S 0) ∧ (0 < way j ↔ ¬ sgW S way j = cuT S j) := by
  have c := cuT_b hR hI h1 h2
  have w := hw j h1 h2
  have e : cuT S j = S (173 + wT S j) - 1 := rfl
  unfold sgW kby
  rw [← e]
  by_cases hd : way j = 0
  · rw [if_pos hd]; omega
  · rw [if_neg hd]
    by_cases hl : cuT S j < way j
    · rw [if_pos hl]; omega
    · rw [if_neg hl]; omega
theorem chW_e (hR : InvR S) (hI : InvL S) (hw : Box way (mT S) (S 0)) : chW way (mT S) = chgI (cuT S) (sgW S way) (mT S) := by
  refine sumI_c (fun j h1 h2 => ?_)
  show (if 0 < way j then (1 : Int) else 0) = if sgW S way j = cuT S j then 0 else 1
  have := (sgW_b hR hI hw h1 h2).2
  by_cases h : 0 < way j
  · rw [if_pos h, if_neg (this.mp h)]
  · by_cases h2 : sgW S way j = cuT S j
    · rw [if_neg h, if_pos h2]
    · exact absurd (this.mpr h2) h
theorem kby_dgy (h : 0 ≤ S (173 + o) - 1) (hx : 0 ≤ x) : kby S o (dgy S o x) = x := by
  unfold kby dgy
  by_cases h1 : x = S (173 + o) - 1
  · rw [if_pos h1, if_pos rfl, h1]
  · rw [if_neg h1]
    by_cases h2 : x < S (173 + o) - 1
    · rw [if_pos h2, if_neg (by omega), if_neg (by omega)]; omega
    · rw [if_neg h2, if_neg (by omega), if_pos (by omega)]
theorem dgy_b (h : 0 ≤ S (173 + o) - 1 ∧ S (173 + o) - 1 < K) (hx : 0 ≤ x ∧ x < K) : 0 ≤ dgy S o x ∧ dgy S o x < K := by
  unfold dgy
  split
  · omega
  · split <;> omega
def LvT (S : SS) (s k v : Int) (L : Int → Int) (js : Int) : Prop := LvC (alT S) (cuT S) L (mT S) (S 0) js k v ∧ ∀ x, 0 ≤ x → x < S 0 → 1 ≤ L x → L x < v → room S x + (if x = S (173 + s) - 1 then 1 else 0) ≤ 0
theorem ap_low (hR : InvR S) (hI : InvL S) (hj : 0 ≤ js ∧ js < mT S) (ejs : wT S js = s) (hne : ¬ S (173 + s) - 1 = k) (hv : 1 ≤ v) (hL : LvT S s k v L js) (hw : Box way (mT S) (S 0)) (hF : Feas S s k way) : v ≤ chW way (mT S) := by
  have g := hR.1
  have ec : cuT S js = S (173 + s) - 1 := by unfold cuT; rw [ejs]
  rw [chW_e hR hI hw]
  refine chg_low (al := alT S) (L := L) (K := S 0) (js := js) (k := k) (PL := fun x => S (9 + x)) g.1 hj (fun j h1 h2 => cuT_b hR hI h1 h2) (fun j h1 h2 => ⟨(sgW_b hR hI hw h1 h2).1, (hF.1 j h1 h2).1⟩) (fun x h1 h2 => hF.2 x h1 h2) hL.1 (fun x h1 h2 h3 h4 => ?_) ((hF.1 js hj.1 hj.2).2 ejs) (by rw [ec]; exact hne) hv
  have := hL.2 x h1 h2 h3 h4
  rw [room_cnt hR hI] at this
  rw [ec]
  exact this
theorem ap_no (hR : InvR S) (hI : InvL S) (hj : 0 ≤ js ∧ js < mT S) (ejs : wT S js = s) (hkb : 0 ≤ k ∧ k < S 0) (hL : LvT S s k (S 0 + 1) L js) (hw : Box way (mT S) (S 0)) : ¬ Feas S s k way := by
  intro hF
  have g := hR.1
  have ec : cuT S js = S (173 + s) - 1 := by unfold cuT; rw [ejs]
  refine no_way (al := alT S) (cu := cuT S) (sg := sgW S way) (L := L) (m := mT S) (K := S 0) (js := js) (k := k) (PL := fun x => S (9 + x)) g.1 hj (fun j h1 h2 => cuT_b hR hI h1 h2) (fun j h1 h2 => ⟨(sgW_b hR hI hw h1 h2).1, (hF.1 j h1 h2).1⟩) (fun x h1 h2 => hF.2 x h1 h2) hL.1 (fun x h1 h2 h3 h4 => ?_) ((hF.1 js hj.1 hj.2).2 ejs) hkb
  have := hL.2 x h1 h2 h3 h4
  rw [room_cnt hR hI] at this
  rw [ec]
  exact this
def wyO (S : SS) (sg : Int → Int) (j : Int) : Int := dgy S (wT S j) (sg j)
theorem wyO_ok (hR : InvR S) (hI : InvL S) (hs : ∀ j, 0 ≤ j → j < mT S → 0 ≤ sg j ∧ sg j < S 0) : Box (wyO S sg) (mT S) (S 0) ∧ ∀ j, 0 ≤ j → j < mT S → sgW S (wyO S sg) j = sg j := by
  refine ⟨fun j h1 h2 => ?_, fun j h1 h2 => ?_⟩
  · have c := cuT_b hR hI h1 h2
    exact dgy_b ⟨c.1, c.2⟩ (hs j h1 h2)
  · have c := cuT_b hR hI h1 h2
    unfold sgW wyO
    exact kby_dgy c.1 (hs j h1 h2).1
theorem cnt_c (h : ∀ j, 0 ≤ j → j < m → f j = g j) : cntI f m x = cntI g m x := sumI_c (fun j h1 h2 => by
  show (if f j = x then (1 : Int) else 0) = if g j = x then 1 else 0
  rw [h j h1 h2])
theorem ap_ex (hR : InvR S) (hI : InvL S) (hj : 0 ≤ js ∧ js < mT S) (ejs : wT S js = s) (hne : ¬ S (173 + s) - 1 = k) (hkb : 0 ≤ k ∧ k < S 0) (hka : bt (S (51 + s)) k = 1) (hL : LvT S s k v L js) (hx : 0 ≤ x ∧ x < S 0) (hxv : L x = v) (hv : 1 ≤ v) (hr : 1 ≤ room S x + (if x = S (173 + s) - 1 then 1 else 0)) : ∃ way, Box way (mT S) (S 0) ∧ Feas S s k way ∧ chW way (mT S) = v := by
  have g := hR.1
  have ec : cuT S js = S (173 + s) - 1 := by unfold cuT; rw [ejs]
  obtain ⟨sg, s1, s2, s3, s4, s5⟩ := chain (al := alT S) (cu := cuT S) (L := L) (m := mT S) (K := S 0) (js := js) (k := k) (v := v) hj hL.1 (fun j h1 h2 => (wT_b hR hI h1 h2).2.2.2) (by unfold alT; rw [ejs]; exact hka) hkb (fun j h1 h2 => cuT_b hR hI h1 h2) (by rw [ec]; exact hne) (v - 1).toNat x hx.1 hx.2 (by omega)
  obtain ⟨w1, w2⟩ := wyO_ok (sg := sg) hR hI (fun j h1 h2 => (s1 j h1 h2).1)
  refine ⟨wyO S sg, w1, ⟨fun j h1 h2 => ⟨by rw [w2 j h1 h2]; exact (s1 j h1 h2).2, fun e => ?_⟩, fun y h1 h2 => ?_⟩, ?_⟩
  · have : j = js := wT_inj hR h1 h2 hj.1 hj.2 (by rw [e, ejs])
    rw [w2 j h1 h2, this, s2]
  · rw [cnt_c w2, s3 y, ec]
    have rm := hI.2.2.2.2.1 y h1 h2
    rw [room_cnt hR hI] at rm hr
    by_cases h : y = x
    · rw [if_pos h, h]; rw [h] at rm
      by_cases h' : x = S (173 + s) - 1
      · rw [if_pos h'] at hr ⊢; omega
      · rw [if_neg h'] at hr ⊢; omega
    · rw [if_neg h]; split <;> omega
  · rw [chW_e hR hI w1]
    have e : chgI (cuT S) (sgW S (wyO S sg)) (mT S) = chgI (cuT S) sg (mT S) := sumI_c (fun j h1 h2 => by
      show (if sgW S (wyO S sg) j = cuT S j then (0 : Int) else 1) = if sg j = cuT S j then 0 else 1
      rw [w2 j h1 h2])
    rw [e, s4]; omega
theorem ap_id (hR : InvR S) (hI : InvL S) (e : S (173 + s) - 1 = k) : Feas S s k (fun _ => 0) ∧ chW (fun _ => 0) (mT S) = 0 := by
  have mb := mT_b hR
  have w : ∀ j, sgW S (fun _ => 0) j = cuT S j := fun j => by
    unfold sgW kby cuT
    rw [if_pos rfl]
  refine ⟨⟨fun j h1 h2 => ⟨by rw [w j]; exact (wT_b hR hI h1 h2).2.2.2, fun h => by rw [w j]; unfold cuT; rw [h]; exact e⟩, fun x h1 h2 => ?_⟩, ?_⟩
  · rw [cnt_c (fun j _ _ => w j)]
    have rm := hI.2.2.2.2.1 x h1 h2
    rw [room_cnt hR hI] at rm
    omega
  · have e2 : chW (fun _ => 0) (mT S) = sumI (fun _ => 0) (mT S) := sumI_c (fun j _ _ => by show (if (0 : Int) < 0 then (1 : Int) else 0) = 0; rw [if_neg (by omega)])
    rw [e2]
    have a := sumI_lo (f := fun _ => (0 : Int)) (n := mT S) (lo := 0) mb.1 (fun _ _ _ => by show (0 : Int) ≤ 0; omega)
    have b := sumI_hi (f := fun _ => (0 : Int)) (n := mT S) (hi := 0) mb.1 (fun _ _ _ => by show (0 : Int) ≤ 0; omega)
    omega
theorem chW_b (hm : 0 ≤ m) : 0 ≤ chW way m ∧ chW way m ≤ m := by
  have a := sumI_lo (f := fun j => if 0 < way j then (1 : Int) else 0) (n := m) (lo := 0) hm (fun j _ _ => by show 0 ≤ if 0 < way j then (1 : Int) else 0; split <;> omega)
  have b := sumI_hi (f := fun j => if 0 < way j then (1 : Int) else 0) (n := m) (hi := 1) hm (fun j _ _ => by show (if 0 < way j then (1 : Int) else 0) ≤ 1; split <;> omega)
  have e : chW way m = sumI (fun j => if 0 < way j then (1 : Int) else 0) m := rfl
  omega
theorem Feas_c (h : ∀ j, 0 ≤ j → j < mT S → way' j = way j) : Feas S s k way → Feas S s k way' := by
  intro hF
  have e : ∀ j, 0 ≤ j → j < mT S → sgW S way' j = sgW S way j := fun j h1 h2 => by unfold sgW; rw [h j h1 h2]
  refine ⟨fun j h1 h2 => by rw [e j h1 h2]; exact hF.1 j h1 h2, fun x h1 h2 => ?_⟩
  rw [cnt_c e]; exact hF.2 x h1 h2
theorem chW_c (h : ∀ j, 0 ≤ j → j < m → way' j = way j) : chW way' m = chW way m := sumI_c (fun j h1 h2 => by
  show (if 0 < way' j then (1 : Int) else 0) = if 0 < way j then 1 else 0
  rw [h j h1 h2])
def feF (S : SS) (s k : Int) (way : Int → Int) : Int := if sumI (fun j => if bt (S (51 + wT S j)) (sgW S way j) = 1 ∧ (wT S j = s → sgW S way j = k) then 0 else 1) (mT S) = 0 ∧ sumI (fun x => if cntI (sgW S way) (mT S) x ≤ S (9 + x) then 0 else 1) (S 0) = 0 then 1 else 0
theorem sum_all {P : Int → Prop} [DecidablePred P] (hN : 0 ≤ N) : sumI (fun j => if P j then (0 : Int) else 1) N = 0 ↔ ∀ j, 0 ≤ j → j < N → P j := by
  refine ⟨fun h j h1 h2 => ?_, fun h => ?_⟩
  · by_cases hp : P j
    · exact hp
    · exfalso
      have := sum_ge (f := fun j => if P j then (0 : Int) else 1) h1 h2 (fun q _ _ => by show (0 : Int) ≤ if P q then 0 else 1; split <;> omega) (by show 1 ≤ if P j then (0 : Int) else 1; rw [if_neg hp]; omega)
      omega
  · have e : sumI (fun j => if P j then (0 : Int) else 1) N = sumI (fun _ => 0) N := sumI_c (fun j h1 h2 => if_pos (h j h1 h2))
    rw [e]
    have a := sumI_lo (f := fun _ => (0 : Int)) (n := N) (lo := 0) hN (fun _ _ _ => by show (0 : Int) ≤ 0; omega)
    have b := sumI_hi (f := fun _ => (0 : Int)) (n := N) (hi := 0) hN (fun _ _ _ => by show (0 : Int) ≤ 0; omega)
    omega
theorem fe_iff (hR : InvR S) : feF S s k way = 1 ↔ Feas S s k way := by
  have g := hR.1
  have mb := mT_b hR
  have a := sum_all (P := fun j => bt (S (51 + wT S j)) (sgW S way j) = 1 ∧ (wT S j = s → sgW S way j = k)) mb.1
  have b := sum_all (P := fun x => cntI (sgW S way) (mT S) x ≤ S (9 + x)) (N := S 0) g.1
  unfold feF Feas alT
  refine ⟨fun h => ?_, fun h => ?_⟩
  · by_cases hh : sumI (fun j => if bt (S (51 + wT S j)) (sgW S way j) = 1 ∧ (wT S j = s → sgW S way j = k) then (0 : Int) else 1) (mT S) = 0 ∧ sumI (fun x => if cntI (sgW S way) (mT S) x ≤ S (9 + x) then (0 : Int) else 1) (S 0) = 0
    · exact ⟨a.mp hh.1, b.mp hh.2⟩
    · rw [if_neg hh] at h; omega
  · rw [if_pos ⟨a.mpr h.1, b.mpr h.2⟩]
def asr (S : SS) (s k : Int) : Nat → Int → (Int → Int) → Int × (Int → Int) → Int × (Int → Int)
  | 0, _, way, acc => if feF S s k way = 1 ∧ (acc.1 < 0 ∨ chW way (mT S) < acc.1) then (chW way (mT S), way) else acc
  | d + 1, i, way, acc => loopI (fun a acc => asr S s k d (i + 1) (q_u1 way i a) acc) (S 0) acc
def orO (o : Option (Int → Int)) (p : Option (Int → Int)) : Option (Int → Int) := match o with
  | some w => some w
  | none => p
def fstW (S : SS) (s k b : Int) : Nat → Int → (Int → Int) → Option (Int → Int)
  | 0, _, way => if feF S s k way = 1 ∧ chW way (mT S) ≤ b then some way else none
  | d + 1, i, way => loopI (fun a o => orO o (fstW S s k b d (i + 1) (q_u1 way i a))) (S 0) none
theorem Box_s {a : Int} (h : Box way i K) (h0 : 0 ≤ a ∧ a < K) : Box (q_u1 way i a) (i + 1) K := fun j h1 h2 => by
  by_cases hj : j = i
  · rw [hj, u1_e]; exact h0
  · rw [u1_n hj]; exact h j h1 (by omega)
theorem asr_no (hR : InvR S) (hno : ∀ way, Box way (mT S) (S 0) → ¬ Feas S s k way) : ∀ (d : Nat) (i : Int) (way : Int → Int) (acc : Int × (Int → Int)), i + d = mT S → 0 ≤ i → Box way i (S 0) → asr S s k d i way acc = acc := by
  intro d
  induction d with
  | zero =>
    intro i way acc h1 h2 hb
    have e : i = mT S := by omega
    rw [e] at hb
    have : ¬ feF S s k way = 1 := fun z => hno way hb ((fe_iff hR).mp z)
    exact if_neg (fun z => this z.1)
  | succ d ih =>
    intro i way acc h1 h2 hb
    exact loopI_id (fun a p1 p2 => ih (i + 1) _ acc (by omega) (by omega) (Box_s hb ⟨p1, p2⟩))
theorem asr_A (hR : InvR S) (hmin : ∀ way, Box way (mT S) (S 0) → Feas S s k way → b ≤ chW way (mT S)) (hb0 : 0 ≤ b) : ∀ (d : Nat) (i : Int) (way : Int → Int) (acc : Int × (Int → Int)), i + d = mT S → 0 ≤ i → Box way i (S 0) → acc.1 = b → asr S s k d i way acc = acc := by
  intro d
  induction d with
  | zero =>
    intro i way acc h1 h2 hb ha
    have e : i = mT S := by omega
    rw [e] at hb
    refine if_neg (fun z => ?_)
    have := hmin way hb ((fe_iff hR).mp z.1)
    omega
  | succ d ih =>
    intro i way acc h1 h2 hb ha
    exact loopI_id (fun a p1 p2 => ih (i + 1) _ acc (by omega) (by omega) (Box_s hb ⟨p1, p2⟩) ha)
theorem asr_B (hR : InvR S) (hmin : ∀ way, Box way (mT S) (S 0) → Feas S s k way → b ≤ chW way (mT S)) (hb0 : 0 ≤ b) : ∀ (d : Nat) (i : Int) (way : Int → Int) (acc : Int × (Int → Int)), i + d = mT S → 0 ≤ i → Box way i (S 0) → (acc.1 < 0 ∨ b < acc.1) → (∀ w, fstW S s k b d i way = some w → asr S s k d i way acc = (b, w)) ∧ (fstW S s k b d i way = none → (asr S s k d i way acc).1 < 0 ∨ b < (asr S s k d i way acc).1) := by
  have g := hR.1
  intro d
  induction d with
  | zero =>
    intro i way acc h1 h2 hb ha
    have e : i = mT S := by omega
    rw [e] at hb
    have ef : fstW S s k b 0 i way = if feF S s k way = 1 ∧ chW way (mT S) ≤ b then some way else none := rfl
    have ea : asr S s k 0 i way acc = if feF S s k way = 1 ∧ (acc.1 < 0 ∨ chW way (mT S) < acc.1) then (chW way (mT S), way) else acc := rfl
    rw [ef, ea]
    by_cases hF : feF S s k way = 1
    · have mn := hmin way hb ((fe_iff hR).mp hF)
      by_cases hc : chW way (mT S) ≤ b
      · have eb : chW way (mT S) = b := by omega
        rw [if_pos ⟨hF, hc⟩, if_pos ⟨hF, by omega⟩]
        refine ⟨fun w hw => ?_, fun hw => by exact absurd hw (by intro z; cases z)⟩
        rw [← Option.some.inj hw, eb]
      · rw [if_neg (fun z => hc z.2)]
        refine ⟨fun w hw => absurd hw (by intro z; cases z), fun _ => ?_⟩
        by_cases hh : feF S s k way = 1 ∧ (acc.1 < 0 ∨ chW way (mT S) < acc.1)
        · rw [if_pos hh]; right; show b < chW way (mT S); omega
        · rw [if_neg hh]; exact ha
    · rw [if_neg (fun z => hF z.1), if_neg (fun z => hF z.1)]
      exact ⟨fun w hw => absurd hw (by intro z; cases z), fun _ => ha⟩
  | succ d ih =>
    intro i way acc h1 h2 hb ha
    have key : ∀ a, 0 ≤ a → a ≤ S 0 → (∀ w, loopI (fun a o => orO o (fstW S s k b d (i + 1) (q_u1 way i a))) a none = some w → loopI (fun a acc => asr S s k d (i + 1) (q_u1 way i a) acc) a acc = (b, w)) ∧ (loopI (fun a o => orO o (fstW S s k b d (i + 1) (q_u1 way i a))) a none = none → (loopI (fun a acc => asr S s k d (i + 1) (q_u1 way i a) acc) a acc).1 < 0 ∨ b < (loopI (fun a acc => asr S s k d (i + 1) (q_u1 way i a) acc) a acc).1) := by
      refine int_up ?_ ?_
      · rw [loopI_0 (by omega), loopI_0 (by omega)]
        exact ⟨fun w hw => absurd hw (by intro z; cases z), fun _ => ha⟩
      · intro a p1 p2 ih2
        rw [loopI_s p1, loopI_s p1]
        cases ho : loopI (fun a o => orO o (fstW S s k b d (i + 1) (q_u1 way i a))) a none with
        | some w' =>
          have e := ih2.1 w' ho
          rw [e]
          have ea := asr_A hR hmin hb0 d (i + 1) (q_u1 way i a) (b, w') (by omega) (by omega) (Box_s hb ⟨p1, p2⟩) rfl
          rw [ea]
          refine ⟨fun w hw => ?_, fun hw => absurd hw (by intro z; cases z)⟩
          rw [show w' = w from Option.some.inj hw]
        | none =>
          have e := ih2.2 ho
          exact ih (i + 1) (q_u1 way i a) _ (by omega) (by omega) (Box_s hb ⟨p1, p2⟩) e
    exact key (S 0) g.1 (Int.le_refl _)
theorem fst_some (hR : InvR S) {w0 : Int → Int} (h0 : Box w0 (mT S) (S 0)) (hF : Feas S s k w0) (hc : chW w0 (mT S) ≤ b) : ∀ (d : Nat) (i : Int) (way : Int → Int), i + d = mT S → 0 ≤ i → (∀ j, 0 ≤ j → j < i → way j = w0 j) → ∃ w, fstW S s k b d i way = some w := by
  have g := hR.1
  intro d
  induction d with
  | zero =>
    intro i way h1 h2 hp
    have e : ∀ j, 0 ≤ j → j < mT S → way j = w0 j := fun j q1 q2 => hp j q1 (by omega)
    have hF' := Feas_c e hF
    have hc' := chW_c e
    exact ⟨way, if_pos ⟨(fe_iff hR).mpr hF', by omega⟩⟩
  | succ d ih =>
    intro i way h1 h2 hp
    have a0 := h0 i h2 (by omega)
    obtain ⟨w, hw⟩ := ih (i + 1) (q_u1 way i (w0 i)) (by omega) (by omega) (fun j q1 q2 => by
      by_cases hj : j = i
      · rw [hj, u1_e]
      · rw [u1_n hj]; exact hp j q1 (by omega))
    have key : ∀ a, w0 i + 1 ≤ a → a ≤ S 0 → ∃ w, loopI (fun a o => orO o (fstW S s k b d (i + 1) (q_u1 way i a))) a none = some w := by
      refine int_up ?_ ?_
      · rw [loopI_s a0.1, hw]
        cases ho : loopI (fun a o => orO o (fstW S s k b d (i + 1) (q_u1 way i a))) (w0 i) none with
        | some w' => exact ⟨w', rfl⟩
        | none => exact ⟨w, rfl⟩
      · intro a p1 p2 ih2
        obtain ⟨w', hw'⟩ := ih2
        rw [loopI_s (by omega), hw']
        exact ⟨w', rfl⟩
    exact key (S 0) (by omega) (Int.le_refl _)
theorem fst_ok (hR : InvR S) : ∀ (d : Nat) (i : Int) (way w : Int → Int), i + d = mT S → 0 ≤ i → Box way i (S 0) → fstW S s k b d i way = some w → Box w (mT S) (S 0) ∧ Feas S s k w ∧ chW w (mT S) ≤ b := by
  have g := hR.1
  intro d
  induction d with
  | zero =>
    intro i way w h1 h2 hb h
    have e : i = mT S := by omega
    rw [e] at hb
    have ef : fstW S s k b 0 i way = if feF S s k way = 1 ∧ chW way (mT S) ≤ b then some way else none := rfl
    rw [ef] at h
    by_cases hh : feF S s k way = 1 ∧ chW way (mT S) ≤ b
    · rw [if_pos hh] at h
      rw [← Option.some.inj h]
      exact ⟨hb, (fe_iff hR).mp hh.1, hh.2⟩
    · rw [if_neg hh] at h; exact absurd h (by intro z; cases z)
  | succ d ih =>
    intro i way w h1 h2 hb h
    have key : ∀ a, 0 ≤ a → a ≤ S 0 → ∀ w, loopI (fun a o => orO o (fstW S s k b d (i + 1) (q_u1 way i a))) a none = some w → Box w (mT S) (S 0) ∧ Feas S s k w ∧ chW w (mT S) ≤ b := by
      refine int_up ?_ ?_
      · intro w hw; rw [loopI_0 (by omega)] at hw; exact absurd hw (by intro z; cases z)
      · intro a p1 p2 ih2 w hw
        rw [loopI_s p1] at hw
        cases ho : loopI (fun a o => orO o (fstW S s k b d (i + 1) (q_u1 way i a))) a none with
        | some w' =>
          rw [ho] at hw
          have hw : some w' = some w := hw
          rw [← Option.some.inj hw]
          exact ih2 w' ho
        | none =>
          rw [ho] at hw
          exact ih (i + 1) (q_u1 way i a) w (by omega) (by omega) (Box_s hb ⟨p1, p2⟩) hw
    exact key (S 0) g.1 (Int.le_refl _) w h
end SPab
