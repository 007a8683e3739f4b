/-! ===== lost, sours, drought, value, quiet ===== -/
/-- what is lost -/
def lo (t : Nat → Nat → Nat) (wl : Nat) (L : Nat → Nat) (d : Nat) : Nat → Nat := sm (fun b => if t 5 4 / 2 ^ b % 2 = 1 ∧ t 16 0 ≤ ac t wl L (t 6 b) (t 8 b) d then t 7 b else 0)
/-- the class's air -/
def AL (v : St) (t : Nat → Nat → Nat) (wl : Nat) (L : Nat → Nat) : Prop := UT v t 0 ∧ v.1 20 2 = nI wl ∧ v.1 20 3 = -nI 1 ∧ LC v t L ∧ wl < 64
section LO
variable {u m v : St} {t : Nat → Nat → Nat} {wl : Nat} {L : Nat → Nat}
theorem As_AL (hT : TK t) (h : As u v t) : AL v t (t 2 3) (lev t) := ⟨h.2.1, h.2.2.2.1, h.2.2.2.2.1, h.2.2.2.2.2.2, K_wal hT⟩
theorem aoL (hT : TK t) (hA : AL v t wl L) {b d : Nat} (hb : b < 8) (hbt : bt t b) (hd : d < 2000) : f_X0_acidOf v (nI b) (nI d) = some (nI (ac t wl L (t 6 b) (t 8 b) d)) := by
  have hw := hA.2.2.2.2
  unfold f_X0_acidOf
  rw [hbY hA.1 hT hb hbt, b1E, if_neg n10, ckiT hb (by decide), ckiT hb (by decide), ixN (by omega), U_lie hA.1 hb, U_cor hA.1 hb, acC hA.1 hT hA.2.1 hA.2.2.1 (by omega) (K_there hT hb hbt).1 (K_bar hT hb).2.2.1 hd hA.2.2.2.1.1 hA.2.2.2.1.2]; rfl
theorem vgC (hU : UT v t 0) (hT : TK t) {a : Nat} (ha : a < 2 ^ 31) : f_X9_isVinegar v (nI a) = some (if t 16 0 ≤ a then 1 else 0) := by
  have h0 := (K_set hT).2.2 0 (by omega)
  unfold f_X9_isVinegar
  rw [ckiT' (i := 0) (k := 0) rfl (by omega) (by decide), show ix 0 = 0 from rfl, U_set hU (by omega)]
  by_cases h : t 16 0 ≤ a
  · rw [if_pos h, if_neg (nI_nlt h ha)]
  · rw [if_neg h, if_pos (nI_lt (by omega) (by omega))]
theorem ac_le {c k d : Nat} : ac t wl L c k d ≤ 99 := Nat.min_le_left _ _
theorem lo_le (hT : TK t) {d n : Nat} (hn : n ≤ 8) : lo t wl L d n ≤ 72 := by
  have := sm_le (f := fun b => if t 5 4 / 2 ^ b % 2 = 1 ∧ t 16 0 ≤ ac t wl L (t 6 b) (t 8 b) d then t 7 b else 0) (n := n) (k := 9) (fun i hi => by have := (K_bar hT (b := i) (by omega)).2.1; show (if _ then _ else _) ≤ 9; split <;> omega)
  unfold lo; omega
theorem loC (hT : TK t) (hA : AL v t wl L) {d : Nat} (hd : d < 2000) : f_X11_lostBehind v (nI d) = some (nI (lo t wl L d 8)) := by
  unfold f_X11_lostBehind
  rw [jq1]
  refine mr_2 (fun i => nI (lo t wl L d i)) nI 8 ?_ ?_ (FU_lt (by decide)) rfl rfl
  · intro i hi rec
    unfold B_X11_lostBehind_4
    rw [if_neg (nle_l (l := 8) 8 rfl hi (by decide)), nI_1]
    show _ = rec (nI (lo t wl L d i + (if t 5 4 / 2 ^ i % 2 = 1 ∧ t 16 0 ≤ ac t wl L (t 6 i) (t 8 i) d then t 7 i else 0))) _
    by_cases hbt : bt t i
    · have h2 : t 5 4 / 2 ^ i % 2 = 1 := hbt
      rw [hbY hA.1 hT hi hbt, b1E, if_neg n10, aoL hT hA hi hbt hd, b1E, vgC hA.1 hT (by have := ac_le (t := t) (wl := wl) (L := L) (c := t 6 i) (k := t 8 i) (d := d); omega), b1E]
      by_cases h : t 16 0 ≤ ac t wl L (t 6 i) (t 8 i) d
      · rw [if_pos h, if_neg n10, if_pos ⟨h2, h⟩, ckiT hi (by decide), ixN (by omega), U_siz hA.1 hi, nI_add]
      · rw [if_neg h, if_pos rfl, if_neg (fun h9 => h h9.2)]; rfl
    · rw [hbF hA.1 hT hi hbt, b1E, if_pos rfl, if_neg (fun h9 => hbt h9.1)]; rfl
  · intro rec
    unfold B_X11_lostBehind_4
    rw [if_pos (le_l (l := 8) 8 rfl (by omega) (by decide))]
theorem loM (hM : MT m t) (hT : TK t) (hL : LM m L) {d : Nat} (hd : d ≤ 2000) : f_X12_lostBehind m (nI d) = some (nI (lo t (t 2 3) L d 8)) := by
  have h0 := (K_set hT).2.2 0 (by omega)
  unfold f_X12_lostBehind
  rw [jq1]
  refine mr_2 (fun i => nI (lo t (t 2 3) L d i)) nI 8 ?_ ?_ (FU_lt (by decide)) rfl rfl
  · intro i hi rec
    have ha := ac_le (t := t) (wl := t 2 3) (L := L) (c := t 6 i) (k := t 8 i) (d := d)
    unfold B_X12_lostBehind_4
    rw [if_neg (nle_l (l := 8) 8 rfl hi (by decide)), nI_1, show nI (lo t (t 2 3) L d i) + (0 : Int32) = nI (lo t (t 2 3) L d i) from nI_add _ 0]
    show _ = rec (nI (lo t (t 2 3) L d i + (if t 5 4 / 2 ^ i % 2 = 1 ∧ t 16 0 ≤ ac t (t 2 3) L (t 6 i) (t 8 i) d then t 7 i else 0))) _
    by_cases hbt : bt t i
    · have h2 : t 5 4 / 2 ^ i % 2 = 1 := hbt
      rw [ibY hM hT hi hbt, b1E, if_neg n10, abM hM hT hL hi hd, b1E, M_sour hM]
      by_cases h : t 16 0 ≤ ac t (t 2 3) L (t 6 i) (t 8 i) d
      · rw [if_neg (nI_nlt h (by omega)), if_pos ⟨h2, h⟩, ckiT hi (by decide), ixN (by omega), M_siz hM hi, nI_add]
      · rw [if_pos (nI_lt (by omega) (by omega)), if_neg (fun h9 => h h9.2)]; rfl
    · rw [ibF hM hT hi hbt, b1E, if_pos rfl, if_neg (fun h9 => hbt h9.1)]; rfl
  · intro rec
    unfold B_X12_lostBehind_4
    rw [if_pos (le_l (l := 8) 8 rfl (by omega) (by decide))]
end LO
theorem s_lost : Sp_lost Inv := by
  intro N u m p1 hi0
  obtain ⟨t, hU, hM, hT, hP, hI, hd, hr⟩ := id hi0
  unfold f_X11_lost f_X12_lost
  by_cases h : (0 : Int32) ≤ p1 ∧ p1 ≤ 999
  · obtain ⟨e1, e2, d, hd9, rfl⟩ := days_yes (u := u) (m := m) h
    obtain ⟨v, ev, hA⟩ := asI hU hT
    rw [e1, e2, b1E, b1E, if_neg n10, if_neg n10, ev, b1E, loC hT (As_AL hT hA) (by omega), loM hM hT (LM_is hM hT hd hr) (by omega)]
    exact ⟨_, _, rfl, rfl, Inv_keep hi0 hA.1 Km_rf⟩
  · rw [(days_no (u := u) (m := m) h).1, (days_no (u := u) (m := m) h).2, b1E, b1E, if_pos rfl, if_pos rfl]
    exact ⟨_, _, rfl, rfl, hi0⟩
def soP (t : Nat → Nat → Nat) (b : Nat) : Nat → Bool := fun i => decide (t 16 0 ≤ sm (fun i => br t (t 2 3) (t 6 b) (lev t i) - t 8 b) (i + 1))
def soV (t : Nat → Nat → Nat) (b : Nat) : Int32 := if fs (soP t b) 999 < 999 then nI (fs (soP t b) 999 + 1) else -6
theorem s_sours : Sp_sours Inv := by
  intro N u m p1 hi0
  obtain ⟨t, hU, hM, hT, hP, hI, hd, hr⟩ := id hi0
  have h0 := (K_set hT).2.2 0 (by omega)
  have hw := K_wal hT
  have hcn := K_cnt hT
  unfold f_X11_sours f_X12_sours
  rcases bar_cs hU hM hT p1 with ⟨e1, e2⟩ | ⟨e1, e2, b, hb, rfl, hbt⟩
  · rw [e1, e2, b1E, b1E, if_pos rfl, if_pos rfl]
    exact ⟨_, _, rfl, rfl, hi0⟩
  obtain ⟨v, ev, hA⟩ := asI hU hT
  have hLM := LM_is hM hT hd hr
  have hth := K_there hT hb hbt
  have hbk := K_bar hT hb
  have hbr : ∀ i, i < 2000 → br t (t 2 3) (t 6 b) (lev t i) ≤ 9 := fun i hi => Nat.le_trans br_le (lev_le hT i)
  have hsm : ∀ i, i ≤ 999 → sm (fun i => br t (t 2 3) (t 6 b) (lev t i) - t 8 b) i ≤ 9 * i := fun i hi => by
    have := sm_le (f := fun i => br t (t 2 3) (t 6 b) (lev t i) - t 8 b) (n := i) (k := 9) (fun j hj => by have := hbr j (by omega); omega)
    omega
  rw [e1, e2, b1E, b1E, if_neg n10, if_neg n10, ev, b1E, ckiT hb (by decide), ckiT hb (by decide), jq0, jq0]
  refine ⟨soV t b, v, ?_, ?_, Inv_keep hi0 hA.1 Km_rf⟩
  · refine mw_2 (P := fun i (x y : Int32) => y = nI i ∧ x = nI (sm (fun i => br t (t 2 3) (t 6 b) (lev t i) - t 8 b) i) ∧ ∀ j, j < i → soP t b j = false) (Q := fun o => o = some (soV t b, v)) 999 ?_ ?_ (FU_lt (by decide)) ⟨rfl, rfl, fun j hj => absurd hj (by omega)⟩
    · rintro i x y hi ⟨rfl, rfl, hn⟩
      have h1 := hA.2.2.2.2.2.2.1 i (by omega)
      have h2 := hbr i (by omega)
      have h3 := hsm (i + 1) (by omega)
      have e : ∀ rec, B_X11_sours_55 (nI b) v (some (-6, v)) rec (nI (sm (fun i => br t (t 2 3) (t 6 b) (lev t i) - t 8 b) i)) (nI i) = if t 16 0 ≤ sm (fun i => br t (t 2 3) (t 6 b) (lev t i) - t 8 b) (i + 1) then some (nI (i + 1), v) else rec (nI (sm (fun i => br t (t 2 3) (t 6 b) (lev t i) - t 8 b) (i + 1))) (nI (i + 1)) := by
        intro rec
        unfold B_X11_sours_55
        rw [if_neg (nle_l (l := 999) 999 rfl hi (by decide)), h1.1, b1E, ixN (by omega), U_lie hA.2.1 hb, U_cor hA.2.1 hb, riC hA.2.1 hT hA.2.2.2.1 (by omega) hth.1 (by omega) (by omega), b1E, nI_add, nI_1]
        rw [show sm (fun i => br t (t 2 3) (t 6 b) (lev t i) - t 8 b) i + (br t (t 2 3) (t 6 b) (lev t i) - t 8 b) = sm (fun i => br t (t 2 3) (t 6 b) (lev t i) - t 8 b) (i + 1) from rfl, vgC hA.2.1 hT (by omega), b1E]
        by_cases h9 : t 16 0 ≤ sm (fun i => br t (t 2 3) (t 6 b) (lev t i) - t 8 b) (i + 1)
        · rw [if_pos h9, if_pos h9, if_neg n10]
        · rw [if_neg h9, if_neg h9, if_pos rfl]
      by_cases hp : soP t b i = true
      · refine Or.inr fun rec => ?_
        rw [e, if_pos (of_decide_eq_true hp)]
        unfold soV
        rw [fs_hit hi hp hn, if_pos hi]
      · refine Or.inl ⟨_, _, fun rec => by rw [e, if_neg (fun h9 => hp (decide_eq_true h9))], ⟨rfl, rfl, fun j hj => ?_⟩⟩
        by_cases h9 : j = i
        · subst h9; exact Bool.eq_false_iff.mpr hp
        · exact hn j (by omega)
    · rintro x y ⟨rfl, rfl, hn⟩ rec
      unfold B_X11_sours_55 soV
      rw [fs_none hn, if_pos (show (999 : Int32) ≤ nI 999 by decide), if_neg (by omega)]
  · refine mw_2 (P := fun i (x y : Int32) => y = nI i ∧ x = nI (min 99 (sm (fun i => br t (t 2 3) (t 6 b) (lev t i) - t 8 b) i)) ∧ ∀ j, j < i → soP t b j = false) (Q := fun o => o = some (soV t b)) 999 ?_ ?_ (FU_lt (by decide)) ⟨rfl, rfl, fun j hj => absurd hj (by omega)⟩
    · rintro i x y hi ⟨rfl, rfl, hn⟩
      have h2 := hbr i (by omega)
      have h3 := hsm (i + 1) (by omega)
      have e : ∀ rec, B_X12_sours_14 (nI b) m (some (-6)) rec (nI (min 99 (sm (fun i => br t (t 2 3) (t 6 b) (lev t i) - t 8 b) i))) (nI i) = if t 16 0 ≤ sm (fun i => br t (t 2 3) (t 6 b) (lev t i) - t 8 b) (i + 1) then some (nI (i + 1)) else rec (nI (min 99 (sm (fun i => br t (t 2 3) (t 6 b) (lev t i) - t 8 b) (i + 1)))) (nI (i + 1)) := by
        intro rec
        unfold B_X12_sours_14
        rw [if_neg (nle_l (l := 999) 999 rfl hi (by decide)), ckiT hb (by decide), ixN (by omega), M_lie hM hb, riM hM hT hLM hb (by omega) (by omega), b1E, nI_add, upM (by omega), b1E, nI_1, mn_st, M_sour hM]
        rw [show sm (fun i => br t (t 2 3) (t 6 b) (lev t i) - t 8 b) i + (br t (t 2 3) (t 6 b) (lev t i) - t 8 b) = sm (fun i => br t (t 2 3) (t 6 b) (lev t i) - t 8 b) (i + 1) from rfl]
        by_cases h9 : t 16 0 ≤ sm (fun i => br t (t 2 3) (t 6 b) (lev t i) - t 8 b) (i + 1)
        · rw [if_pos h9, if_neg (nI_nlt (by omega) (by omega))]
        · rw [if_neg h9, if_pos (nI_lt (by omega) (by omega))]
      by_cases hp : soP t b i = true
      · refine Or.inr fun rec => ?_
        rw [e, if_pos (of_decide_eq_true hp)]
        unfold soV
        rw [fs_hit hi hp hn, if_pos hi]
      · refine Or.inl ⟨_, _, fun rec => by rw [e, if_neg (fun h9 => hp (decide_eq_true h9))], ⟨rfl, rfl, fun j hj => ?_⟩⟩
        by_cases h9 : j = i
        · subst h9; exact Bool.eq_false_iff.mpr hp
        · exact hn j (by omega)
    · rintro x y ⟨rfl, rfl, hn⟩ rec
      unfold B_X12_sours_14 soV
      rw [fs_none hn, if_pos (show (999 : Int32) ≤ nI 999 by decide), if_neg (by omega)]
