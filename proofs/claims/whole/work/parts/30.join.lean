/-! ===== worlds side by side ===== -/
theorem P_l {D : va_G} {w1 w2 : va_W} {H : Heap} (h : va_P D vwCl (w1 ++ w2) H) : va_P D vwCl w1 H := fun k q hk => h k q (by rw [List.getElem?_append_left (List.getElem?_eq_some_iff.mp hk).1]; exact hk)
theorem P_r {D : va_G} {w1 w2 : va_W} {H : Heap} (h : va_P D vwCl (w1 ++ w2) H) : va_P D vwCl w2 H := fun k q hk => h (w1.length + k) q (by rw [List.getElem?_append_right (by omega)]; rw [show w1.length + k - w1.length = k by omega]; exact hk)
theorem D_l {A : Nat → Prop} {w1 w2 : va_W} (h : va_D A (w1 ++ w2)) : va_D A w1 := ⟨fun i j p q hi hj hpq => h.1 i j p q (by rw [List.getElem?_append_left (List.getElem?_eq_some_iff.mp hi).1]; exact hi) (by rw [List.getElem?_append_left (List.getElem?_eq_some_iff.mp hj).1]; exact hj) hpq, fun k q hk => h.2 k q (by rw [List.getElem?_append_left (List.getElem?_eq_some_iff.mp hk).1]; exact hk)⟩
theorem G_r {w1 w2 : va_W} {k : Nat} {q : Nat × va_E} (hk : w2[k]? = some q) : (w1 ++ w2)[w1.length + k]? = some q := by rw [List.getElem?_append_right (by omega), show w1.length + k - w1.length = k by omega]; exact hk
theorem G_l {w1 w2 : va_W} {k : Nat} {q : Nat × va_E} (hk : w1[k]? = some q) : (w1 ++ w2)[k]? = some q := by rw [List.getElem?_append_left (List.getElem?_eq_some_iff.mp hk).1]; exact hk
theorem D_r {A : Nat → Prop} {w1 w2 : va_W} (h : va_D A (w1 ++ w2)) : va_D A w2 := ⟨fun i j p q hi hj hpq => by have := h.1 _ _ p q (G_r hi) (G_r hj) hpq; omega, fun k q hk => h.2 _ q (G_r hk)⟩
theorem D_x {A : Nat → Prop} {w1 w2 : va_W} (h : va_D A (w1 ++ w2)) {i j : Nat} {p q : Nat × va_E} (hi : w1[i]? = some p) (hj : w2[j]? = some q) : p.1 ≠ q.1 := fun e => by
  have h1 := h.1 _ _ p q (G_l hi) (G_r hj) e
  have h2 := (List.getElem?_eq_some_iff.mp hi).1
  omega
theorem J_r {A A1 : Nat → Prop} {D : va_G} {w1 w2 w2' : va_W} {H H1 : Heap} (hP : va_P D vwCl (w1 ++ w2) H) (hD : va_D A (w1 ++ w2)) (hA1 : ∀ q, A1 q → (∃ (k : Nat) (e : va_E), w2[k]? = some (q, e)) ∨ H.size ≤ q) (hk : ∀ q : Nat, q < H.size → ¬ A1 q → H1[q]? = H[q]?) (hF : ∀ q, A1 q → A q) (hP1 : va_P D vwCl w2' H1) (hD1 : va_D A1 w2') : va_P D vwCl (w1 ++ w2') H1 ∧ va_D A (w1 ++ w2') := by
  have ap : ∀ (k : Nat) (q : Nat × va_E), w1[k]? = some q → q.1 < H.size ∧ ¬ A1 q.1 := by
    intro k q hq
    have hl := (P_l hP k q hq).lt
    refine ⟨hl, fun h9 => ?_⟩
    rcases hA1 _ h9 with ⟨k2, e2, h2⟩ | h2
    · exact D_x hD hq h2 rfl
    · omega
  exact ⟨va_P.app (fun k q hq => (P_l hP k q hq).kept (hk q.1 (ap k q hq).1 (ap k q hq).2)) hP1, va_D.app (D_l hD) (hD1.weaken (fun _ _ _ h9 => hF _ h9)) (fun i j x y hx hy hxy => (ap i x hx).2 (by rw [hxy]; exact hD1.2 j y hy))⟩
theorem J_l {A A1 : Nat → Prop} {D : va_G} {w1 w1' w2 : va_W} {H H1 : Heap} (hP : va_P D vwCl (w1 ++ w2) H) (hD : va_D A (w1 ++ w2)) (hA1 : ∀ q, A1 q → (∃ (k : Nat) (e : va_E), w1[k]? = some (q, e)) ∨ H.size ≤ q) (hk : ∀ q : Nat, q < H.size → ¬ A1 q → H1[q]? = H[q]?) (hF : ∀ q, A1 q → A q) (hP1 : va_P D vwCl w1' H1) (hD1 : va_D A1 w1') : va_P D vwCl (w1' ++ w2) H1 ∧ va_D A (w1' ++ w2) := by
  have ap : ∀ (k : Nat) (q : Nat × va_E), w2[k]? = some q → q.1 < H.size ∧ ¬ A1 q.1 := by
    intro k q hq
    have hl := (P_r hP k q hq).lt
    refine ⟨hl, fun h9 => ?_⟩
    rcases hA1 _ h9 with ⟨k2, e2, h2⟩ | h2
    · exact D_x hD h2 hq rfl
    · omega
  exact ⟨va_P.app hP1 (fun k q hq => (P_r hP k q hq).kept (hk q.1 (ap k q hq).1 (ap k q hq).2)), va_D.app (hD1.weaken (fun _ _ _ h9 => hF _ h9)) (D_r hD) (fun i j x y hx hy hxy => (ap j y hy).2 (by rw [← hxy]; exact hD1.2 i x hx))⟩
/-! ===== the images' row ===== -/
theorem kq_0 {a : Nat → Nat} {x : Int32} (h : x = 0) : va_rf (if x = 0 then none else some (a (ix x))) = .null := by rw [if_pos h]; rfl
theorem kq_n {a : Nat → Nat} {x : Int32} (y : Int32) (n : Nat) (h : x = y) (h0 : ¬ y = 0) (hj : ix y = n) : va_rf (if x = 0 then none else some (a (ix x))) = .ref (a n) := by
  subst h; rw [if_neg h0, hj]; rfl
section IR
variable {p : Program} {l : Launch} {e : Env} {R : Room} {s : State} {m : MethodId} {args : Array Value} {below : List Frame} {meth : Method} {c : Code} {H H0 : Heap} {locs : List Loc} {cells slots : Nat} {Q : State → Prop} {pc : Nat} {ls : Array Slot} {rest : List Value} {A : Nat → Prop} {cc : ByteArray} {D : va_G} {N : Nat} {a : Nat → Nat} {u : St} {own : String} {index : Nat} {cI cJ cR : ClassId}
theorem rTopV {x y : Value} (h : x = y) (k : W p l e R s m args below meth c H locs cells slots Q (F0 m pc ls (y :: rest))) : W p l e R s m args below meth c H locs cells slots Q (F0 m pc ls (x :: rest)) := h ▸ k
theorem gB_17 (hNN : 38 ≤ N) (hx : p.tables.exec = Jvm.exec) (hb : c.code = cc) (hK : va_K D vwCl (tyB cI cJ cR) s) (h : Hh D A (wX N a (EB a cI cJ cR) u) H0 H locs) {i : Int32} (hin : vp_in i 2) (hdg : decode cc pc = .ok (.aaload, 1)) (kk : W p l e R s m args below meth c H locs cells slots Q (F0 m (pc + 1) ls (va_rf (if u.1 17 (ix i) = 0 then none else some (a (ix (u.1 17 (ix i))))) :: rest))) : W p l e R s m args below meth c H locs cells slots Q (F0 m pc ls (.int i :: .ref (a 17) :: rest)) :=
  va_aldq (C := "CellarTides$Town") hx hb hK h.1 17 2 (wX_at (Nat.lt_of_lt_of_le (by decide) hNN) rfl) rfl hin hdg kk
end IR
def f_X11_restore (u : St) (p1 : Int32) : Option (Int32 × St) := b1 (f_X11_within u p1 0 1) (fun (x1 : Int32) => if x1 = 0 then some ((-2), u) else cki p1 2 (if u.1 17 (ix p1) = 0 then some ((-3), u) else if u.1 17 (ix p1) = 38 then b1 (f_X9_copyFrom_1_38 u) (fun (u5 : St) => some (1, u5)) else ck (u.1 17 (ix p1) = 54) (b1 (f_X9_copyFrom_1_54 u) (fun (u6 : St) => some (1, u6)))))
set_option maxRecDepth 100000 in
set_option maxHeartbeats 4000000 in
theorem c_X11_restore {l : Launch} {D : va_G} {cI cJ cR : ClassId} {a : Nat → Nat} {u : St} {N : Nat} (hNN : 38 ≤ N) {p1 : Int32} {rr : Int32} {uu : St} (hqA : ∀ j, u.1 17 j = 38 → 54 ≤ N) (hqB : ∀ j, u.1 17 j = 54 → 70 ≤ N) (hf : f_X11_restore u p1 = some (rr, uu)) : Ci l yX11_restore cX11_restore 3 (some .int) 3 82 D (tyB cI cJ cR) N a (EB a cI cJ cR) [.ref (a 0), .int p1] u rr uu := by
  refine metI (by decide +kernel) (Nat.le_of_ble_eq_true rfl) ?_
  intro p e s m args below meth c R Q hx hb hml hown hts hF hLo hret hK hN h ls hl
  have hown : s.vm.findClass RX11 = some m.cls := hown
  have hl : lv_has ls 3 [(0, .ref (a 0)), (1, .int p1)] := hl
  unfold f_X11_restore at hf
  refine lv_iload_n (pc := 0) hx hb dX11_restore_0 rfl (lv_at hl 1 rfl) ?_
  refine lv_iconst (pc := 1) (v := 0) hx hb dX11_restore_1 (by decide) ?_
  refine lv_iconst (pc := 2) (v := 1) hx hb dX11_restore_2 (by decide) ?_
  obtain ⟨x1, hc, hf⟩ := b1_e hf
  refine kS_X11_within (pc := 3) hNN hx hb hml hown hts hK hN hc ml_X11_70 (Nat.le_trans (by decide) hF) (Nat.le_trans (by decide) hLo) h hl.1 ⟨Nat.zero_le _, Nat.zero_le _⟩ (Nat.le_of_ble_eq_true rfl) dX11_restore_3 (fun H locs h => ?_)
  refine lv_if_ne (pc := 6) (tgt := 12) hx hb dX11_restore_6 (by decide) (fun c2 => ?_) (fun c2 => ?_)
  · have hf := if_f hf c2
    refine lv_aload_n (pc := 12) hx hb dX11_restore_12 rfl (lv_at hl 0 rfl) ?_
    refine gB_0_1 (pc := 13) hNN hx hb hts hown hK h fl_X11_16 dX11_restore_13 ?_
    refine lv_iload_n (pc := 16) hx hb dX11_restore_16 rfl (lv_at hl 1 rfl) ?_
    obtain ⟨hin, hf⟩ := cki_e hf
    refine gB_17 (pc := 17) hNN hx hb hK h hin dX11_restore_17 ?_
    by_cases c3 : u.1 17 (ix p1) = 0
    · have hf := if_t hf c3
      refine rTopV (kq_0 c3) ?_
      refine lv_astore_nN (pc := 18) (lv' := [(2, .null), (0, .ref (a 0)), (1, .int p1)]) hx hb dX11_restore_18 rfl hl (by decide) rfl (fun ls hl => ?_)
      refine lv_aload_nN (pc := 19) hx hb dX11_restore_19 rfl (lv_at hl 0 rfl) ?_
      refine lv_ifnonnullN (pc := 20) hx hb dX11_restore_20 ?_
      refine lv_bipush (pc := 23) (v := (-3)) hx hb dX11_restore_23 (by decide) ?_
      exact hret (so1 hf) rfl (so2 hf) dX11_restore_25 h
    have hf := if_f hf c3
    by_cases c4 : u.1 17 (ix p1) = 38
    · have hf := if_t hf c4
      have hNA : 54 ≤ N := hqA _ c4
      refine rTopV (kq_n 38 38 c4 (by decide) (by decide)) ?_
      refine lv_astore_n (pc := 18) (lv' := [(2, .ref (a 38)), (0, .ref (a 0)), (1, .int p1)]) hx hb dX11_restore_18 rfl hl (by decide) rfl (fun ls hl => ?_)
      refine lv_aload_n (pc := 19) hx hb dX11_restore_19 rfl (lv_at hl 0 rfl) ?_
      refine lv_ifnonnull (pc := 20) (tgt := 26) hx hb dX11_restore_20 (by decide) ?_
      refine lv_aload_n (pc := 26) hx hb dX11_restore_26 rfl (lv_at hl 1 rfl) ?_
      refine gB_0_0 (pc := 27) hNN hx hb hts hown hK h fl_X11_12 dX11_restore_27 ?_
      refine lv_aload_n (pc := 30) hx hb dX11_restore_30 rfl (lv_at hl 0 rfl) ?_
      obtain ⟨u5, hc, hf⟩ := b1_e hf
      refine k_X9_copyFrom_1_38 (pc := 31) hNA hNN hx hb hml hown hts hK hN hc ml_X11_340 (Nat.le_trans (by decide) hF) (Nat.le_trans (by decide) hLo) h hl.1 ⟨Nat.zero_le _, Nat.zero_le _⟩ (Nat.le_of_ble_eq_true rfl) dX11_restore_31 (fun H locs h => ?_)
      refine lv_iconst (pc := 34) (v := 1) hx hb dX11_restore_34 (by decide) ?_
      exact hret (so1 hf) rfl (so2 hf) dX11_restore_35 h
    have hf := if_f hf c4
    obtain ⟨c43, hf⟩ := ck_e hf
    have hNB : 70 ≤ N := hqB _ c43
    refine rTopV (kq_n 54 54 c43 (by decide) (by decide)) ?_
    refine lv_astore_n (pc := 18) (lv' := [(2, .ref (a 54)), (0, .ref (a 0)), (1, .int p1)]) hx hb dX11_restore_18 rfl hl (by decide) rfl (fun ls hl => ?_)
    refine lv_aload_n (pc := 19) hx hb dX11_restore_19 rfl (lv_at hl 0 rfl) ?_
    refine lv_ifnonnull (pc := 20) (tgt := 26) hx hb dX11_restore_20 (by decide) ?_
    refine lv_aload_n (pc := 26) hx hb dX11_restore_26 rfl (lv_at hl 1 rfl) ?_
    refine gB_0_0 (pc := 27) hNN hx hb hts hown hK h fl_X11_12 dX11_restore_27 ?_
    refine lv_aload_n (pc := 30) hx hb dX11_restore_30 rfl (lv_at hl 0 rfl) ?_
    obtain ⟨u6, hc, hf⟩ := b1_e hf
    refine k_X9_copyFrom_1_54 (pc := 31) hNB hNN hx hb hml hown hts hK hN hc ml_X11_340 (Nat.le_trans (by decide) hF) (Nat.le_trans (by decide) hLo) h hl.1 ⟨Nat.zero_le _, Nat.zero_le _⟩ (Nat.le_of_ble_eq_true rfl) dX11_restore_31 (fun H locs h => ?_)
    refine lv_iconst (pc := 34) (v := 1) hx hb dX11_restore_34 (by decide) ?_
    exact hret (so1 hf) rfl (so2 hf) dX11_restore_35 h
  · have hf := if_t hf c2
    refine lv_bipush (pc := 9) (v := (-2)) hx hb dX11_restore_9 (by decide) ?_
    exact hret (so1 hf) rfl (so2 hf) dX11_restore_11 h
def f_X11_image (u : St) (p1 : Int32) : Option (Int32 × St) := b1 (f_X11_within u p1 0 1) (fun (x1 : Int32) => if x1 = 0 then some ((-2), u) else cki p1 2 (if u.1 17 (ix p1) = 0 then none else if u.1 17 (ix p1) = 38 then cki p1 2 (if u.1 17 (ix p1) = 0 then none else if u.1 17 (ix p1) = 38 then b1 (f_X9_copyFrom_38_1 u) (fun (u7 : St) => some (1, u7)) else ck (u.1 17 (ix p1) = 54) (b1 (f_X9_copyFrom_54_1 u) (fun (u8 : St) => some (1, u8)))) else ck (u.1 17 (ix p1) = 54) (cki p1 2 (if u.1 17 (ix p1) = 0 then none else if u.1 17 (ix p1) = 38 then b1 (f_X9_copyFrom_38_1 u) (fun (u11 : St) => some (1, u11)) else ck (u.1 17 (ix p1) = 54) (b1 (f_X9_copyFrom_54_1 u) (fun (u12 : St) => some (1, u12)))))))
set_option maxRecDepth 100000 in
set_option maxHeartbeats 4000000 in
theorem c_X11_image {l : Launch} {D : va_G} {cI cJ cR : ClassId} {a : Nat → Nat} {u : St} {N : Nat} (hNN : 38 ≤ N) {p1 : Int32} {rr : Int32} {uu : St} (hqA : ∀ j, u.1 17 j = 38 → 54 ≤ N) (hqB : ∀ j, u.1 17 j = 54 → 70 ≤ N) (hf : f_X11_image u p1 = some (rr, uu)) : Ci l yX11_image cX11_image 2 (some .int) 3 82 D (tyB cI cJ cR) N a (EB a cI cJ cR) [.ref (a 0), .int p1] u rr uu := by
  refine metI (by decide +kernel) (Nat.le_of_ble_eq_true rfl) ?_
  intro p e s m args below meth c R Q hx hb hml hown hts hF hLo hret hK hN h ls hl
  have hown : s.vm.findClass RX11 = some m.cls := hown
  have hl : lv_has ls 2 [(0, .ref (a 0)), (1, .int p1)] := hl
  unfold f_X11_image at hf
  refine lv_iload_n (pc := 0) hx hb dX11_image_0 rfl (lv_at hl 1 rfl) ?_
  refine lv_iconst (pc := 1) (v := 0) hx hb dX11_image_1 (by decide) ?_
  refine lv_iconst (pc := 2) (v := 1) hx hb dX11_image_2 (by decide) ?_
  obtain ⟨x1, hc, hf⟩ := b1_e hf
  refine kS_X11_within (pc := 3) hNN hx hb hml hown hts hK hN hc ml_X11_70 (Nat.le_trans (by decide) hF) (Nat.le_trans (by decide) hLo) h hl.1 ⟨Nat.zero_le _, Nat.zero_le _⟩ (Nat.le_of_ble_eq_true rfl) dX11_image_3 (fun H locs h => ?_)
  refine lv_if_ne (pc := 6) (tgt := 12) hx hb dX11_image_6 (by decide) (fun c2 => ?_) (fun c2 => ?_)
  · have hf := if_f hf c2
    refine lv_aload_n (pc := 12) hx hb dX11_image_12 rfl (lv_at hl 0 rfl) ?_
    refine gB_0_1 (pc := 13) hNN hx hb hts hown hK h fl_X11_16 dX11_image_13 ?_
    refine lv_iload_n (pc := 16) hx hb dX11_image_16 rfl (lv_at hl 1 rfl) ?_
    obtain ⟨hin, hf⟩ := cki_e hf
    refine gB_17 (pc := 17) hNN hx hb hK h hin dX11_image_17 ?_
    by_cases c3 : u.1 17 (ix p1) = 0
    · have hf := if_t hf c3
      refine rTopV (kq_0 c3) ?_
      refine lv_ifnonnullN (pc := 18) hx hb dX11_image_18 ?_
      cases hf
    have hf := if_f hf c3
    by_cases c4 : u.1 17 (ix p1) = 38
    · have hf := if_t hf c4
      have hNA : 54 ≤ N := hqA _ c4
      refine rTopV (kq_n 38 38 c4 (by decide) (by decide)) ?_
      refine lv_ifnonnull (pc := 18) (tgt := 34) hx hb dX11_image_18 (by decide) ?_
      refine lv_aload_n (pc := 34) hx hb dX11_image_34 rfl (lv_at hl 0 rfl) ?_
      refine gB_0_1 (pc := 35) hNN hx hb hts hown hK h fl_X11_16 dX11_image_35 ?_
      refine lv_iload_n (pc := 38) hx hb dX11_image_38 rfl (lv_at hl 1 rfl) ?_
      obtain ⟨hin, hf⟩ := cki_e hf
      refine gB_17 (pc := 39) hNN hx hb hK h hin dX11_image_39 ?_
      by_cases c5 : u.1 17 (ix p1) = 0
      · have hf := if_t hf c5
        cases hf
      have hf := if_f hf c5
      by_cases c6 : u.1 17 (ix p1) = 38
      · have hf := if_t hf c6
        have hNA : 54 ≤ N := hqA _ c6
        refine rTopV (kq_n 38 38 c6 (by decide) (by decide)) ?_
        refine lv_aload_n (pc := 40) hx hb dX11_image_40 rfl (lv_at hl 0 rfl) ?_
        refine gB_0_0 (pc := 41) hNN hx hb hts hown hK h fl_X11_12 dX11_image_41 ?_
        obtain ⟨u7, hc, hf⟩ := b1_e hf
        refine k_X9_copyFrom_38_1 (pc := 44) hNA hNN hx hb hml hown hts hK hN hc ml_X11_340 (Nat.le_trans (by decide) hF) (Nat.le_trans (by decide) hLo) h hl.1 ⟨Nat.zero_le _, Nat.zero_le _⟩ (Nat.le_of_ble_eq_true rfl) dX11_image_44 (fun H locs h => ?_)
        refine lv_iconst (pc := 47) (v := 1) hx hb dX11_image_47 (by decide) ?_
        exact hret (so1 hf) rfl (so2 hf) dX11_image_48 h
      have hf := if_f hf c6
      obtain ⟨c63, hf⟩ := ck_e hf
      have hNB : 70 ≤ N := hqB _ c63
      refine rTopV (kq_n 54 54 c63 (by decide) (by decide)) ?_
      refine lv_aload_n (pc := 40) hx hb dX11_image_40 rfl (lv_at hl 0 rfl) ?_
      refine gB_0_0 (pc := 41) hNN hx hb hts hown hK h fl_X11_12 dX11_image_41 ?_
      obtain ⟨u8, hc, hf⟩ := b1_e hf
      refine k_X9_copyFrom_54_1 (pc := 44) hNB hNN hx hb hml hown hts hK hN hc ml_X11_340 (Nat.le_trans (by decide) hF) (Nat.le_trans (by decide) hLo) h hl.1 ⟨Nat.zero_le _, Nat.zero_le _⟩ (Nat.le_of_ble_eq_true rfl) dX11_image_44 (fun H locs h => ?_)
      refine lv_iconst (pc := 47) (v := 1) hx hb dX11_image_47 (by decide) ?_
      exact hret (so1 hf) rfl (so2 hf) dX11_image_48 h
    have hf := if_f hf c4
    obtain ⟨c43, hf⟩ := ck_e hf
    have hNB : 70 ≤ N := hqB _ c43
    refine rTopV (kq_n 54 54 c43 (by decide) (by decide)) ?_
    refine lv_ifnonnull (pc := 18) (tgt := 34) hx hb dX11_image_18 (by decide) ?_
    refine lv_aload_n (pc := 34) hx hb dX11_image_34 rfl (lv_at hl 0 rfl) ?_
    refine gB_0_1 (pc := 35) hNN hx hb hts hown hK h fl_X11_16 dX11_image_35 ?_
    refine lv_iload_n (pc := 38) hx hb dX11_image_38 rfl (lv_at hl 1 rfl) ?_
    obtain ⟨hin, hf⟩ := cki_e hf
    refine gB_17 (pc := 39) hNN hx hb hK h hin dX11_image_39 ?_
    by_cases c9 : u.1 17 (ix p1) = 0
    · have hf := if_t hf c9
      cases hf
    have hf := if_f hf c9
    by_cases c10 : u.1 17 (ix p1) = 38
    · have hf := if_t hf c10
      have hNA : 54 ≤ N := hqA _ c10
      refine rTopV (kq_n 38 38 c10 (by decide) (by decide)) ?_
      refine lv_aload_n (pc := 40) hx hb dX11_image_40 rfl (lv_at hl 0 rfl) ?_
      refine gB_0_0 (pc := 41) hNN hx hb hts hown hK h fl_X11_12 dX11_image_41 ?_
      obtain ⟨u11, hc, hf⟩ := b1_e hf
      refine k_X9_copyFrom_38_1 (pc := 44) hNA hNN hx hb hml hown hts hK hN hc ml_X11_340 (Nat.le_trans (by decide) hF) (Nat.le_trans (by decide) hLo) h hl.1 ⟨Nat.zero_le _, Nat.zero_le _⟩ (Nat.le_of_ble_eq_true rfl) dX11_image_44 (fun H locs h => ?_)
      refine lv_iconst (pc := 47) (v := 1) hx hb dX11_image_47 (by decide) ?_
      exact hret (so1 hf) rfl (so2 hf) dX11_image_48 h
    have hf := if_f hf c10
    obtain ⟨c103, hf⟩ := ck_e hf
    have hNB : 70 ≤ N := hqB _ c103
    refine rTopV (kq_n 54 54 c103 (by decide) (by decide)) ?_
    refine lv_aload_n (pc := 40) hx hb dX11_image_40 rfl (lv_at hl 0 rfl) ?_
    refine gB_0_0 (pc := 41) hNN hx hb hts hown hK h fl_X11_12 dX11_image_41 ?_
    obtain ⟨u12, hc, hf⟩ := b1_e hf
    refine k_X9_copyFrom_54_1 (pc := 44) hNB hNN hx hb hml hown hts hK hN hc ml_X11_340 (Nat.le_trans (by decide) hF) (Nat.le_trans (by decide) hLo) h hl.1 ⟨Nat.zero_le _, Nat.zero_le _⟩ (Nat.le_of_ble_eq_true rfl) dX11_image_44 (fun H locs h => ?_)
    refine lv_iconst (pc := 47) (v := 1) hx hb dX11_image_47 (by decide) ?_
    exact hret (so1 hf) rfl (so2 hf) dX11_image_48 h
  · have hf := if_t hf c2
    refine lv_bipush (pc := 9) (v := (-2)) hx hb dX11_image_9 (by decide) ?_
    exact hret (so1 hf) rfl (so2 hf) dX11_image_11 h
