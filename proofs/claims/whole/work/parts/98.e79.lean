section SPje
variable {d kx km mi pc : Nat} {G : GG} {c c' c0 : CC} {ax : List AV} {v v4 : Int} {L : LV} {st : List AV} {h : HH} {Q : OO → HH → Prop}
def rO (r : Nat) : Bool := decide (188 ≤ r) && decide (r < 211)
theorem rO_t {r : Nat} (h : rO r = true) : 188 ≤ r ∧ r < 211 := by
  obtain ⟨a, b⟩ := q_bool2 h
  exact ⟨of_decide_eq_true a, of_decide_eq_true b⟩
theorem rO_m {r : Nat} (h : 188 ≤ r ∧ r < 211) : rO r = true := by
  unfold rO
  rw [decide_eq_true h.1, decide_eq_true h.2]; rfl
theorem rO_f {r : Nat} (h : ¬ (188 ≤ r ∧ r < 211)) : ¬ rO r = true := fun z => h (rO_t z)
theorem rf_o : ((List.range 212).all (fun r => decide (r < 188) || decide (r = 211) || (List.range 50).all (fun k => !(decide (k < q_N (q_shp r).1) && decide (q_ft (q_shp r).1 k = 3)) || q_rfls.any (fun q => decide (q.1 = r) && decide (q.2.1 = k) && (decide (188 ≤ q.2.2) && decide (q.2.2 < 211)))))) = true := by decide +kernel
theorem Cl_o (hG : Shp G) : Cl rO G := by
  have g1 := rf_o
  obtain ⟨_, g2⟩ := Cl_r hG
  rw [List.all_eq_true] at g1
  refine ⟨?_, ?_⟩
  · intro r ci k hok hP hk hft
    have hr : r < 212 := by have := hok.2.1; rw [hG.1] at this; omega
    have hb := rO_t hP
    have hci : (q_shp r).1 = ci := by rw [← hG.2.1 r hr]; exact hok.2.2.2
    have h1 := g1 r (List.mem_range.mpr hr)
    rw [decide_eq_false (show ¬ r < 188 by omega), decide_eq_false (show ¬ r = 211 by omega)] at h1
    have h1 : ((List.range 50).all (fun k => !(decide (k < q_N (q_shp r).1) && decide (q_ft (q_shp r).1 k = 3)) || q_rfls.any (fun q => decide (q.1 = r) && decide (q.2.1 = k) && (decide (188 ≤ q.2.2) && decide (q.2.2 < 211))))) = true := h1
    rw [List.all_eq_true] at h1
    have h2 := h1 k (List.mem_range.mpr (by have := N_lt ci; omega))
    rw [hci, decide_eq_true hk, decide_eq_true hft] at h2
    have h3 : q_rfls.any (fun q => decide (q.1 = r) && decide (q.2.1 = k) && (decide (188 ≤ q.2.2) && decide (q.2.2 < 211))) = true := h2
    rw [List.any_eq_true] at h3
    obtain ⟨q, q1, q2⟩ := h3
    obtain ⟨q2, q4⟩ := q_bool2 q2
    obtain ⟨q2, q3⟩ := q_bool2 q2
    have := hG.2.2 q q1
    rw [of_decide_eq_true q2, of_decide_eq_true q3] at this
    rw [this]
    exact q4
  · intro r i hok hP hi
    exfalso
    have hb := rO_t hP
    have e := hG.2.1 r (by omega)
    have f : ((List.range 212).all (fun r => decide (r < 188) || (!(decide ((q_shp r).1 = 24)) && !(decide ((q_shp r).1 = 25))))) = true := (q_bool2 rf_all).2
    rw [List.all_eq_true] at f
    have h1 := f r (List.mem_range.mpr (by omega))
    rw [decide_eq_false (show ¬ r < 188 by omega)] at h1
    obtain ⟨h2, h3⟩ := q_bool2 (show (!(decide ((q_shp r).1 = 24)) && !(decide ((q_shp r).1 = 25))) = true from h1)
    rcases hok with hok | hok
    · rw [← e, hok.2.2.2] at h2; cases h2
    · rw [← e, hok.2.2.2] at h3; cases h3
theorem pO_ints (h : ∀ a ∈ ax, ∃ v : Int, a = aI v) : pS rO (aR 188 :: ax) := by
  intro a ha
  rcases List.mem_cons.mp ha with e | e
  · rw [e]; rfl
  · obtain ⟨v, hv⟩ := h a e
    rw [hv]; exact True.intro
theorem TM_fo (hG : Shp G) {k : Nat} {as : List AV} {Q : Option AV → HH → Prop} (hk : gd k = true) (ha : pS rO as) (h : TM d k as (G, c) Q) (h0 : ∀ r, 188 ≤ r → r < 211 → c0 r = c r) : TM d k as (G, c0) (fun r h' => ∃ c', Q r (G, c') ∧ h' = (G, mrg rO c' c0)) := by
  obtain ⟨n, o, h', he, hq⟩ := h
  obtain ⟨hv, c', rfl, e2, e3⟩ := ev_fr (Cl_o hG) n d k 0 _ _ c o h' hk (stt_0 hk) (p_ent ha) (fun v hv => by cases hv) he
  refine ⟨n, o, _, e3 c0 (fun r hr => h0 r (rO_t hr).1 (rO_t hr).2), ?_⟩
  cases o with
  | inl r => exact ⟨c', hq, rfl⟩
  | inr z => exact hq
theorem GR_mo {cA cB : CC} (h : GR cA cB) (e : ∀ r, r < 188 → ¬ r = 0 → c0 r = cA r) : GR (mrg rO cB c0) (mrg rO cB c0) :=
  GR_out h (fun r p q => by
    unfold mrg
    rw [if_neg (rO_f (by omega))]; exact e r p q) (fun r p q => by
    unfold mrg; rw [if_pos (rO_m ⟨p, q⟩)])
end SPje
