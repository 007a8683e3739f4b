def uB0 : St := (fun c => match c with
  | 2 => dgV.1 0
  | 3 => dgV.1 1
  | 4 => dgV.1 2
  | 10 => (fun k => if k = 1 then 2 else 0)
  | 11 => upd (fun _ => 0) 1 5
  | 16 => fsS
  | _ => fun _ => 0, fun _ _ => 0)
def tw (o : Nat) (u : St) : St := (fun c => if o ≤ c ∧ c < o + 16 then uB0.1 (c - o + 1) else u.1 c, u.2)
def ext (o : Nat) (a v : Nat → Nat) : Nat → Nat := fun c => if c < o then a c else v (c - o)
def hd0 (q : Nat) (v : Nat → Nat) : Nat → Nat := fun k => if k = 0 then q else v k
theorem EB_ext38 {a v : Nat → Nat} {cI cJ cR : ClassId} (x : Nat → Int32) (y : Nat → Int64) : ∀ c, c < 38 → c ≠ 17 → EB (ext 38 a v) cI cJ cR x y c = EB a cI cJ cR x y c := by
  intro c hc h17
  match c, hc, h17 with
  | 0, _, _ => rfl
  | 1, _, _ => rfl
  | 2, _, _ => rfl
  | 3, _, _ => rfl
  | 4, _, _ => rfl
  | 5, _, _ => rfl
  | 6, _, _ => rfl
  | 7, _, _ => rfl
  | 8, _, _ => rfl
  | 9, _, _ => rfl
  | 10, _, _ => rfl
  | 11, _, _ => rfl
  | 12, _, _ => rfl
  | 13, _, _ => rfl
  | 14, _, _ => rfl
  | 15, _, _ => rfl
  | 16, _, _ => rfl
  | 17, _, h => exact absurd rfl h
  | 18, _, _ => rfl
  | 19, _, _ => rfl
  | 20, _, _ => rfl
  | 21, _, _ => rfl
  | 22, _, _ => rfl
  | 23, _, _ => rfl
  | 24, _, _ => rfl
  | 25, _, _ => rfl
  | 26, _, _ => rfl
  | 27, _, _ => rfl
  | 28, _, _ => rfl
  | 29, _, _ => rfl
  | 30, _, _ => rfl
  | 31, _, _ => rfl
  | 32, _, _ => rfl
  | 33, _, _ => rfl
  | 34, _, _ => rfl
  | 35, _, _ => rfl
  | 36, _, _ => rfl
  | 37, _, _ => rfl
  | n + 38, h, _ => exact absurd h (by omega)
theorem wX_ext38 {a v : Nat → Nat} {q : Nat} {u : St} {cI cJ cR : ClassId} (hq : ∀ j, u.1 17 j = 0 ∨ ix (u.1 17 j) < 38) : wX 38 a (EB a cI cJ cR) u ++ [(q, .inr (9, [.ref (v 1), .ref (v 4), .ref (v 9), .ref (v 11), .ref (v 15)])), (v 1, .inr (10, [.ref (v 2), .ref (v 3), .int (dgV.1 0 2), .int (dgV.1 0 3)])), (v 2, .inl (cI, 6, .inl (dgV.1 1))), (v 3, .inl (cI, 6, .inl (dgV.1 2))), (v 4, .inr (7, [.ref (v 5), .ref (v 6), .ref (v 7), .ref (v 8), .int 0])), (v 5, .inl (cI, 8, .inl (fun _ => 0))), (v 6, .inl (cI, 8, .inl (fun _ => 0))), (v 7, .inl (cI, 8, .inl (fun _ => 0))), (v 8, .inl (cI, 8, .inl (fun _ => 0))), (v 9, .inr (8, [.ref (v 10), .int 2])), (v 10, .inl (cI, 30, .inl (upd (fun _ => 0) 1 5))), (v 11, .inr (6, [.ref (v 12), .ref (v 13), .ref (v 14), .int 0])), (v 12, .inl (cI, 6, .inl (fun _ => 0))), (v 13, .inl (cI, 6, .inl (fun _ => 0))), (v 14, .inl (cI, 6, .inl (fun _ => 0))), (v 15, .inl (cI, 7, .inl fsS))] = wX 54 (ext 38 a (hd0 q v)) (EB (ext 38 a (hd0 q v)) cI cJ cR) (tw 38 u) := by
  have h1 : wX 54 (ext 38 a (hd0 q v)) (EB (ext 38 a (hd0 q v)) cI cJ cR) (tw 38 u) = wX 38 (ext 38 a (hd0 q v)) (EB (ext 38 a (hd0 q v)) cI cJ cR) (tw 38 u) ++ (List.range 16).map (fun k => (ext 38 a (hd0 q v) (38 + k), EB (ext 38 a (hd0 q v)) cI cJ cR ((tw 38 u).1 (38 + k)) ((tw 38 u).2 (38 + k)) (38 + k))) := by
    unfold wX
    rw [show (54 : Nat) = 38 + 16 from rfl, List.range_add, List.map_append, List.map_map]
    rfl
  rw [h1]
  congr 1
  apply List.map_congr_left
  intro c hc
  have hc : c < 38 := List.mem_range.mp hc
  have e1 : ext 38 a (hd0 q v) c = a c := if_pos hc
  have e2 : (tw 38 u).1 c = u.1 c := if_neg (fun h => by omega)
  rw [e1, e2]
  by_cases h17 : c = 17
  · subst h17
    show (a 17, Sum.inl (cR, 2, Sum.inr (Sum.inr (Sum.inr (Sum.inr (fun j => if u.1 17 j = 0 then none else some (a (ix (u.1 17 j)))))))) ) = (a 17, Sum.inl (cR, 2, Sum.inr (Sum.inr (Sum.inr (Sum.inr (fun j => if u.1 17 j = 0 then none else some (ext 38 a (hd0 q v) (ix (u.1 17 j)))))))))
    have hfun : (fun j => if u.1 17 j = 0 then none else some (a (ix (u.1 17 j)))) = (fun j => if u.1 17 j = 0 then none else some (ext 38 a (hd0 q v) (ix (u.1 17 j)))) := by
      funext j
      rcases hq j with h | h
      · rw [if_pos h, if_pos h]
      · rw [show ext 38 a (hd0 q v) (ix (u.1 17 j)) = a (ix (u.1 17 j)) from if_pos h]
    rw [hfun]
  · rw [EB_ext38 _ _ c hc h17]
    rfl
set_option maxRecDepth 100000 in
set_option maxHeartbeats 4000000 in
theorem c_X11_img38 {l : Launch} {D : va_G} {cI cJ cR : ClassId} {a : Nat → Nat} {u : St} {p1 : Int32} {uu : St} {tF tL tM : Nat} (hp : p1 = 0 ∨ p1 = 1) (hc0 : u.1 17 (ix p1) = 0) (hq : ∀ j, u.1 17 j = 0 ∨ ix (u.1 17 j) < 38) (hf : f_X9_copyFrom_38_1 (sI (tw 38 u) 17 (ix p1) 38) = some uu) (sz : Nat) : Met l yX11_image (Cond.code yX11_image cX11_image 2 (some .int) :: Gd) { frames := 3, cells := 16, slots := 119, locals := 82 } (va_Pc [.ref (a 0), .int p1] (fun U => PB D (tyB cI cJ cR) (wX 38 a (EB a cI cJ cR) u) sz U ∧ ZW U ∧ SZ cI tF tL tM (AB 38 a sz) U U.heap)) (va_Qi (fun (r : Int32) (_ : Nat → Nat) => r = 1) (fun v t => va_P D vwCl (wX 54 (ext 38 a v) (EB (ext 38 a v) cI cJ cR) uu) t.heap ∧ va_D (AB 38 a sz) (wX 54 (ext 38 a v) (EB (ext 38 a v) cI cJ cR) uu)) (AB 38 a sz)) 16 119 (AB 38 a sz) := by
  refine Met.ofW (cc := cX11_image) (maxL := 2) (ret := some .int) (by decide +kernel) rfl ?_
  intro p e s m args below meth c s₁ B hml hv
  obtain ⟨rfl, ⟨hsz, hP, hK, hD0, hN⟩, hW0, hZ⟩ := hv
  have hx := B.exec
  have hb := B.bytes
  have hr := B.returns
  have hts0 := atoms_spec (ws := Cond.code yX11_image cX11_image 2 (some .int) :: Gd) B.pre
  have hts : ∀ w ∈ Gd, w.before _ s = true := fun w h => hts0 w (List.mem_cons_of_mem _ h)
  have hown : s.vm.findClass RX11 = some m.cls := findClass_of_methodNamed B.named
  have hlocks := B.notSynchronized
  subst hsz
  have h : Hh D (AB 38 a s.heap.size) (wX 38 a (EB a cI cJ cR) u) s.heap s.heap [] := ⟨hP, AB_D hD0, va_S.rf⟩
  have hA : ∀ q : Nat, s.heap.size ≤ q → AB 38 a s.heap.size q := fun q h9 => Or.inr h9
  have hl := lv_entry [.ref (a 0), .int p1] (n := 2) (Nat.le_of_ble_eq_true rfl)
  rw [lg_entry_eq]
  generalize (lg_sl [.ref (a 0), .int p1] ++ List.replicate (2 - (lg_sl [.ref (a 0), .int p1]).length) Slot.unset).toArray = ls at hl ⊢
  have hl : lv_has ls 2 [(0, .ref (a 0)), (1, .int p1)] := hl
  generalize hRe : (headSpec (Cond.code yX11_image cX11_image 2 (some .int) :: Gd) { frames := 3, cells := 16, slots := 119, locals := 82 }).room = R
  have hF : 3 ≤ R.frames := by rw [← hRe]; exact Nat.le_refl _
  have hLo : 82 ≤ R.locals := by rw [← hRe]; exact Nat.le_refl _
  have hcs : 16 ≤ R.cells ∧ 119 ≤ R.slots := by rw [← hRe]; exact ⟨Nat.le_refl _, Nat.le_refl _⟩
  have hNN : 38 ≤ 38 := by decide
  have hcw : f_X11_within u p1 0 1 = some 1 := by rcases hp with rfl | rfl <;> rfl
  have hin : vp_in p1 2 := by rcases hp with rfl | rfl <;> (unfold vp_in; decide)
  refine lv_iload_n (pc := 0) hx hb dX11_image_0 rfl (lv_at hl 1 rfl) ?_
  refine lv_iconst (pc := 1) (v := 0) hx hb dX11_image_1 (by decide) ?_
  refine lv_iconst (pc := 2) (v := 1) hx hb dX11_image_2 (by decide) ?_
  refine kS_X11_within (pc := 3) hNN hx hb hml hown hts hK hN hcw ml_X11_70 (Nat.le_trans (by decide) hF) (Nat.le_trans (by decide) hLo) h hl.1 ⟨Nat.zero_le _, Nat.zero_le _⟩ (Nat.le_of_ble_eq_true rfl) dX11_image_3 (fun H locs h => ?_)
  refine lv_if_ne (pc := 6) (tgt := 12) hx hb dX11_image_6 (by decide) (fun _ => ?_) (fun h9 => absurd h9 (by decide))
  refine lv_aload_n (pc := 12) hx hb dX11_image_12 rfl (lv_at hl 0 rfl) ?_
  refine gB_0_1 (pc := 13) hNN hx hb hts hown hK h fl_X11_16 dX11_image_13 ?_
  refine lv_iload_n (pc := 16) hx hb dX11_image_16 rfl (lv_at hl 1 rfl) ?_
  refine gB_17 (pc := 17) hNN hx hb hK h hin dX11_image_17 ?_
  refine rTopV (kq_0 hc0) ?_
  refine lv_ifnonnullN (pc := 18) hx hb dX11_image_18 ?_
  refine lv_aload_n (pc := 21) hx hb dX11_image_21 rfl (lv_at hl 0 rfl) ?_
  refine gB_0_1 (pc := 22) hNN hx hb hts hown hK h fl_X11_16 dX11_image_22 ?_
  refine lv_iload_n (pc := 25) hx hb dX11_image_25 rfl (lv_at hl 1 rfl) ?_
  refine va_new (pc := 26) (ci := 9) (fs := [.null, .null, .null, .null, .null]) (C := RX9) (T := TX9) (N := 5) hx hb hts ui_X9 tyX9 tyX9_ok hown (hts _ cl_X11_9) (hts _ ia_X9) (hts _ in_X9) hK h.1 h.2.1 h.2.2 hA rfl (fun j hj => by rcases (show j = 0 ∨ j = 1 ∨ j = 2 ∨ j = 3 ∨ j = 4 by omega) with rfl | rfl | rfl | rfl | rfl <;> rfl) (Nat.le_trans (by decide) hcs.1) (Nat.le_trans (by decide) hcs.2) dX11_image_26 (fun q H hP hD hS => ?_)
  refine W.widen (k := 1) (n := 5) (Nat.le_refl _) (Nat.le_refl _) ?_
  refine lv_dup (pc := 29) hx hb dX11_image_29 rfl ?_
  have hPc : va_P D vwCl [(q, .inr (9, [.null, .null, .null, .null, .null]))] H := P_r hP
  have hDc : va_D (AB 38 a s.heap.size) [(q, .inr (9, [.null, .null, .null, .null, .null]))] := D_r hD
  have hFc : ∀ z, va_A [(q, .inr (9, [.null, .null, .null, .null, .null]))] H.size z → AB 38 a s.heap.size z := by
    intro z hz
    rcases hz with ⟨k9, e9, h9⟩ | h9
    · exact hDc.2 k9 _ h9
    · exact hA z (Nat.le_trans hS.1 h9)
  refine va_callv (pc := 30) (va_runIN (As := []) (rest := [.ref q, .int p1, .ref (a 17)]) ⟨hx, hb, hml, hown, hts⟩ (x_X9 l D cI cJ cR tF tL tM q H.size) ⟨va_cnB 0 hts (gdC co_X9_init) rfl rfl rfl (nl_X11_11 hN) (hts _ in_X9) (by decide +kernel) ⟨Nat.le_trans (by decide) hF, Nat.le_trans (by decide) hLo⟩, rfl, hts _ im_X9_init⟩ ⟨PZ_blind, fun U hU hW => ⟨rfl, ⟨by rw [hU], by rw [hU]; exact hPc, va_K.moved hW.alike hK, hDc.weaken (fun _ _ _ _ => trivial), hN.warm hW⟩, hW0.warm hW, by rw [hU]; exact (((hZ.kept hS.2.1).moved hW.alike).narrow hFc)⟩⟩ rfl rfl hl.1 rfl (lv_room (Nat.le_of_ble_eq_true rfl)) dX11_image_30 ⟨Nat.le_trans (by decide) hcs.1, Nat.le_trans (by decide) hcs.2⟩) hS (fun z _ h9 => hFc z h9) hFc (fun v t H1 locs ht hvm hw hB hz1 hk1 hS => ?_)
  obtain ⟨hP1, hD1⟩ := hB
  rw [ht] at hP1
  obtain ⟨hP, hD⟩ := J_r (w1 := wX 38 a (EB a cI cJ cR) u) (w2 := [(q, .inr (9, [.null, .null, .null, .null, .null]))]) hP hD (fun z h9 => h9) hk1 hFc hP1 hD1
  rw [wX_ext38 hq] at hP hD
  refine W.widen (k := 16) (n := 119) (Nat.le_of_ble_eq_true rfl) (Nat.le_of_ble_eq_true rfl) ?_
  obtain ⟨a2, ha2⟩ : ∃ a2 : Nat → Nat, a2 = ext 38 a (hd0 q v) := ⟨_, rfl⟩
  have e17 : a 17 = a2 17 := by rw [ha2]; rfl
  have eN : q = a2 38 := by rw [ha2]; rfl
  have e0 : a 0 = a2 0 := by rw [ha2]; rfl
  have hlo : ∀ c, c < 38 → a2 c = a c := fun c h9 => by rw [ha2]; exact if_pos h9
  rw [← ha2] at hP hD
  rw [e0] at hl
  rw [e17, eN]
  refine va_astq (pc := 33) (f := fun j => if (tw 38 u).1 17 j = 0 then none else some (a2 (ix ((tw 38 u).1 17 j)))) hx hb hK hP hD hS 17 2 38 9 (r := (RX9, TX9, 5)) (wX_at (by decide) rfl) rfl (wX_at (by decide) rfl) rfl hin dX11_image_33 (fun H locs hP hD hS => ?_)
  have hset : (wX 54 a2 (EB a2 cI cJ cR) (tw 38 u)).set 17 (a2 17, .inl (cR, 2, .inr (.inr (.inr (.inr (va_up (fun j => if (tw 38 u).1 17 j = 0 then none else some (a2 (ix ((tw 38 u).1 17 j)))) (ix p1) (some (a2 38)))))))) = wX 54 a2 (EB a2 cI cJ cR) (sI (tw 38 u) 17 (ix p1) 38) := by
    refine wX_set (by decide) (fun d hd => sI_o hd) (fun d hd => rfl) ?_
    rw [sI_s]
    have hfun : (fun j => if upd ((tw 38 u).1 17) (ix p1) 38 j = 0 then none else some (a2 (ix (upd ((tw 38 u).1 17) (ix p1) 38 j)))) = va_up (fun j => if (tw 38 u).1 17 j = 0 then none else some (a2 (ix ((tw 38 u).1 17 j)))) (ix p1) (some (a2 38)) := by
      funext j
      by_cases hj : j = ix p1
      · subst hj; simp only [upd, va_up, if_true]; rfl
      · simp only [upd, va_up, if_neg hj]
    exact congrArg (fun f => (Sum.inl (cR, 2, Sum.inr (Sum.inr (Sum.inr (Sum.inr f)))) : va_E)) hfun
  rw [hset] at hP hD
  have hAB : ∀ z, AB 54 a2 s.heap.size z → AB 38 a s.heap.size z := by
    intro z hz
    rcases hz with ⟨c9, h9, rfl⟩ | h9
    · exact hD.2 c9 _ (wX_at h9 rfl)
    · exact Or.inr h9
  have hBA : ∀ z, AB 38 a s.heap.size z → AB 54 a2 s.heap.size z := by
    intro z hz
    rcases hz with ⟨c9, h9, rfl⟩ | h9
    · exact Or.inl ⟨c9, Nat.lt_of_lt_of_le h9 (by decide), (hlo c9 h9).symm⟩
    · exact Or.inr h9
  have h : Hh D (AB 54 a2 s.heap.size) (wX 54 a2 (EB a2 cI cJ cR) (sI (tw 38 u) 17 (ix p1) 38)) s.heap H locs := ⟨hP, AB_D hD, hS.1, fun z h1 h2 => hS.2.1 z h1 (fun h3 => h2 (hBA z h3)), fun l9 h1 => hBA _ (hS.2.2 l9 h1)⟩
  have hN2 : 38 ≤ 54 := by decide
  have heq : (sI (tw 38 u) 17 (ix p1) 38).1 17 (ix p1) = 38 := by rw [sI_s]; simp [upd]
  refine lv_aload_n (pc := 34) hx hb dX11_image_34 rfl (lv_at hl 0 rfl) ?_
  refine gB_0_1 (pc := 35) hN2 hx hb hts hown hK h fl_X11_16 dX11_image_35 ?_
  refine lv_iload_n (pc := 38) hx hb dX11_image_38 rfl (lv_at hl 1 rfl) ?_
  refine gB_17 (pc := 39) hN2 hx hb hK h hin dX11_image_39 ?_
  refine rTopV (kq_n 38 38 heq (by decide) (by decide)) ?_
  refine lv_aload_n (pc := 40) hx hb dX11_image_40 rfl (lv_at hl 0 rfl) ?_
  refine gB_0_0 (pc := 41) hN2 hx hb hts hown hK h fl_X11_12 dX11_image_41 ?_
  refine k_X9_copyFrom_38_1 (pc := 44) (by decide) (by decide) hx hb hml hown hts hK hN hf ml_X11_340 (Nat.le_trans (by decide) hF) (Nat.le_trans (by decide) hLo) h hl.1 hcs (Nat.le_of_ble_eq_true rfl) dX11_image_44 (fun H locs h => ?_)
  refine lv_iconst (pc := 47) (v := 1) hx hb dX11_image_47 (by decide) ?_
  exact W.iret (v := 1) hx hb hr (fun t ht hW => ⟨⟨1, hd0 q v, rfl, rfl, by rw [ht, ← ha2]; exact h.1, by rw [← ha2]; exact h.2.1.weaken (fun _ _ _ h9 => hAB _ h9)⟩, ⟨by rw [ht]; exact h.2.2.1, fun z h1 h2 => by rw [ht]; exact h.2.2.2.1 z h1 (fun h3 => h2 (hAB z h3))⟩⟩) (fun z h9 => hAB _ (h.2.2.2.2 z h9)) dX11_image_48
theorem EB_ext54 {a v : Nat → Nat} {cI cJ cR : ClassId} (x : Nat → Int32) (y : Nat → Int64) : ∀ c, c < 54 → c ≠ 17 → EB (ext 54 a v) cI cJ cR x y c = EB a cI cJ cR x y c := by
  intro c hc h17
  match c, hc, h17 with
  | 0, _, _ => rfl
  | 1, _, _ => rfl
  | 2, _, _ => rfl
  | 3, _, _ => rfl
  | 4, _, _ => rfl
  | 5, _, _ => rfl
  | 6, _, _ => rfl
  | 7, _, _ => rfl
  | 8, _, _ => rfl
  | 9, _, _ => rfl
  | 10, _, _ => rfl
  | 11, _, _ => rfl
  | 12, _, _ => rfl
  | 13, _, _ => rfl
  | 14, _, _ => rfl
  | 15, _, _ => rfl
  | 16, _, _ => rfl
  | 17, _, h => exact absurd rfl h
  | 18, _, _ => rfl
  | 19, _, _ => rfl
  | 20, _, _ => rfl
  | 21, _, _ => rfl
  | 22, _, _ => rfl
  | 23, _, _ => rfl
  | 24, _, _ => rfl
  | 25, _, _ => rfl
  | 26, _, _ => rfl
  | 27, _, _ => rfl
  | 28, _, _ => rfl
  | 29, _, _ => rfl
  | 30, _, _ => rfl
  | 31, _, _ => rfl
  | 32, _, _ => rfl
  | 33, _, _ => rfl
  | 34, _, _ => rfl
  | 35, _, _ => rfl
  | 36, _, _ => rfl
  | 37, _, _ => rfl
  | 38, _, _ => rfl
  | 39, _, _ => rfl
  | 40, _, _ => rfl
  | 41, _, _ => rfl
  | 42, _, _ => rfl
  | 43, _, _ => rfl
  | 44, _, _ => rfl
  | 45, _, _ => rfl
  | 46, _, _ => rfl
  | 47, _, _ => rfl
  | 48, _, _ => rfl
  | 49, _, _ => rfl
  | 50, _, _ => rfl
  | 51, _, _ => rfl
  | 52, _, _ => rfl
  | 53, _, _ => rfl
  | n + 54, h, _ => exact absurd h (by omega)
theorem wX_ext54 {a v : Nat → Nat} {q : Nat} {u : St} {cI cJ cR : ClassId} (hq : ∀ j, u.1 17 j = 0 ∨ ix (u.1 17 j) < 54) : wX 54 a (EB a cI cJ cR) u ++ [(q, .inr (9, [.ref (v 1), .ref (v 4), .ref (v 9), .ref (v 11), .ref (v 15)])), (v 1, .inr (10, [.ref (v 2), .ref (v 3), .int (dgV.1 0 2), .int (dgV.1 0 3)])), (v 2, .inl (cI, 6, .inl (dgV.1 1))), (v 3, .inl (cI, 6, .inl (dgV.1 2))), (v 4, .inr (7, [.ref (v 5), .ref (v 6), .ref (v 7), .ref (v 8), .int 0])), (v 5, .inl (cI, 8, .inl (fun _ => 0))), (v 6, .inl (cI, 8, .inl (fun _ => 0))), (v 7, .inl (cI, 8, .inl (fun _ => 0))), (v 8, .inl (cI, 8, .inl (fun _ => 0))), (v 9, .inr (8, [.ref (v 10), .int 2])), (v 10, .inl (cI, 30, .inl (upd (fun _ => 0) 1 5))), (v 11, .inr (6, [.ref (v 12), .ref (v 13), .ref (v 14), .int 0])), (v 12, .inl (cI, 6, .inl (fun _ => 0))), (v 13, .inl (cI, 6, .inl (fun _ => 0))), (v 14, .inl (cI, 6, .inl (fun _ => 0))), (v 15, .inl (cI, 7, .inl fsS))] = wX 70 (ext 54 a (hd0 q v)) (EB (ext 54 a (hd0 q v)) cI cJ cR) (tw 54 u) := by
  have h1 : wX 70 (ext 54 a (hd0 q v)) (EB (ext 54 a (hd0 q v)) cI cJ cR) (tw 54 u) = wX 54 (ext 54 a (hd0 q v)) (EB (ext 54 a (hd0 q v)) cI cJ cR) (tw 54 u) ++ (List.range 16).map (fun k => (ext 54 a (hd0 q v) (54 + k), EB (ext 54 a (hd0 q v)) cI cJ cR ((tw 54 u).1 (54 + k)) ((tw 54 u).2 (54 + k)) (54 + k))) := by
    unfold wX
    rw [show (70 : Nat) = 54 + 16 from rfl, List.range_add, List.map_append, List.map_map]
    rfl
  rw [h1]
  congr 1
  apply List.map_congr_left
  intro c hc
  have hc : c < 54 := List.mem_range.mp hc
  have e1 : ext 54 a (hd0 q v) c = a c := if_pos hc
  have e2 : (tw 54 u).1 c = u.1 c := if_neg (fun h => by omega)
  rw [e1, e2]
  by_cases h17 : c = 17
  · subst h17
    show (a 17, Sum.inl (cR, 2, Sum.inr (Sum.inr (Sum.inr (Sum.inr (fun j => if u.1 17 j = 0 then none else some (a (ix (u.1 17 j)))))))) ) = (a 17, Sum.inl (cR, 2, Sum.inr (Sum.inr (Sum.inr (Sum.inr (fun j => if u.1 17 j = 0 then none else some (ext 54 a (hd0 q v) (ix (u.1 17 j)))))))))
    have hfun : (fun j => if u.1 17 j = 0 then none else some (a (ix (u.1 17 j)))) = (fun j => if u.1 17 j = 0 then none else some (ext 54 a (hd0 q v) (ix (u.1 17 j)))) := by
      funext j
      rcases hq j with h | h
      · rw [if_pos h, if_pos h]
      · rw [show ext 54 a (hd0 q v) (ix (u.1 17 j)) = a (ix (u.1 17 j)) from if_pos h]
    rw [hfun]
  · rw [EB_ext54 _ _ c hc h17]
    rfl
set_option maxRecDepth 100000 in
set_option maxHeartbeats 4000000 in
theorem c_X11_img54 {l : Launch} {D : va_G} {cI cJ cR : ClassId} {a : Nat → Nat} {u : St} {p1 : Int32} {uu : St} {tF tL tM : Nat} (hp : p1 = 0 ∨ p1 = 1) (hc0 : u.1 17 (ix p1) = 0) (hq : ∀ j, u.1 17 j = 0 ∨ ix (u.1 17 j) < 54) (hf : f_X9_copyFrom_54_1 (sI (tw 54 u) 17 (ix p1) 54) = some uu) (sz : Nat) : Met l yX11_image (Cond.code yX11_image cX11_image 2 (some .int) :: Gd) { frames := 3, cells := 16, slots := 119, locals := 82 } (va_Pc [.ref (a 0), .int p1] (fun U => PB D (tyB cI cJ cR) (wX 54 a (EB a cI cJ cR) u) sz U ∧ ZW U ∧ SZ cI tF tL tM (AB 54 a sz) U U.heap)) (va_Qi (fun (r : Int32) (_ : Nat → Nat) => r = 1) (fun v t => va_P D vwCl (wX 70 (ext 54 a v) (EB (ext 54 a v) cI cJ cR) uu) t.heap ∧ va_D (AB 54 a sz) (wX 70 (ext 54 a v) (EB (ext 54 a v) cI cJ cR) uu)) (AB 54 a sz)) 16 119 (AB 54 a sz) := by
  refine Met.ofW (cc := cX11_image) (maxL := 2) (ret := some .int) (by decide +kernel) rfl ?_
  intro p e s m args below meth c s₁ B hml hv
  obtain ⟨rfl, ⟨hsz, hP, hK, hD0, hN⟩, hW0, hZ⟩ := hv
  have hx := B.exec
  have hb := B.bytes
  have hr := B.returns
  have hts0 := atoms_spec (ws := Cond.code yX11_image cX11_image 2 (some .int) :: Gd) B.pre
  have hts : ∀ w ∈ Gd, w.before _ s = true := fun w h => hts0 w (List.mem_cons_of_mem _ h)
  have hown : s.vm.findClass RX11 = some m.cls := findClass_of_methodNamed B.named
  have hlocks := B.notSynchronized
  subst hsz
  have h : Hh D (AB 54 a s.heap.size) (wX 54 a (EB a cI cJ cR) u) s.heap s.heap [] := ⟨hP, AB_D hD0, va_S.rf⟩
  have hA : ∀ q : Nat, s.heap.size ≤ q → AB 54 a s.heap.size q := fun q h9 => Or.inr h9
  have hl := lv_entry [.ref (a 0), .int p1] (n := 2) (Nat.le_of_ble_eq_true rfl)
  rw [lg_entry_eq]
  generalize (lg_sl [.ref (a 0), .int p1] ++ List.replicate (2 - (lg_sl [.ref (a 0), .int p1]).length) Slot.unset).toArray = ls at hl ⊢
  have hl : lv_has ls 2 [(0, .ref (a 0)), (1, .int p1)] := hl
  generalize hRe : (headSpec (Cond.code yX11_image cX11_image 2 (some .int) :: Gd) { frames := 3, cells := 16, slots := 119, locals := 82 }).room = R
  have hF : 3 ≤ R.frames := by rw [← hRe]; exact Nat.le_refl _
  have hLo : 82 ≤ R.locals := by rw [← hRe]; exact Nat.le_refl _
  have hcs : 16 ≤ R.cells ∧ 119 ≤ R.slots := by rw [← hRe]; exact ⟨Nat.le_refl _, Nat.le_refl _⟩
  have hNN : 38 ≤ 54 := by decide
  have hcw : f_X11_within u p1 0 1 = some 1 := by rcases hp with rfl | rfl <;> rfl
  have hin : vp_in p1 2 := by rcases hp with rfl | rfl <;> (unfold vp_in; decide)
  refine lv_iload_n (pc := 0) hx hb dX11_image_0 rfl (lv_at hl 1 rfl) ?_
  refine lv_iconst (pc := 1) (v := 0) hx hb dX11_image_1 (by decide) ?_
  refine lv_iconst (pc := 2) (v := 1) hx hb dX11_image_2 (by decide) ?_
  refine kS_X11_within (pc := 3) hNN hx hb hml hown hts hK hN hcw ml_X11_70 (Nat.le_trans (by decide) hF) (Nat.le_trans (by decide) hLo) h hl.1 ⟨Nat.zero_le _, Nat.zero_le _⟩ (Nat.le_of_ble_eq_true rfl) dX11_image_3 (fun H locs h => ?_)
  refine lv_if_ne (pc := 6) (tgt := 12) hx hb dX11_image_6 (by decide) (fun _ => ?_) (fun h9 => absurd h9 (by decide))
  refine lv_aload_n (pc := 12) hx hb dX11_image_12 rfl (lv_at hl 0 rfl) ?_
  refine gB_0_1 (pc := 13) hNN hx hb hts hown hK h fl_X11_16 dX11_image_13 ?_
  refine lv_iload_n (pc := 16) hx hb dX11_image_16 rfl (lv_at hl 1 rfl) ?_
  refine gB_17 (pc := 17) hNN hx hb hK h hin dX11_image_17 ?_
  refine rTopV (kq_0 hc0) ?_
  refine lv_ifnonnullN (pc := 18) hx hb dX11_image_18 ?_
  refine lv_aload_n (pc := 21) hx hb dX11_image_21 rfl (lv_at hl 0 rfl) ?_
  refine gB_0_1 (pc := 22) hNN hx hb hts hown hK h fl_X11_16 dX11_image_22 ?_
  refine lv_iload_n (pc := 25) hx hb dX11_image_25 rfl (lv_at hl 1 rfl) ?_
  refine va_new (pc := 26) (ci := 9) (fs := [.null, .null, .null, .null, .null]) (C := RX9) (T := TX9) (N := 5) hx hb hts ui_X9 tyX9 tyX9_ok hown (hts _ cl_X11_9) (hts _ ia_X9) (hts _ in_X9) hK h.1 h.2.1 h.2.2 hA rfl (fun j hj => by rcases (show j = 0 ∨ j = 1 ∨ j = 2 ∨ j = 3 ∨ j = 4 by omega) with rfl | rfl | rfl | rfl | rfl <;> rfl) (Nat.le_trans (by decide) hcs.1) (Nat.le_trans (by decide) hcs.2) dX11_image_26 (fun q H hP hD hS => ?_)
  refine W.widen (k := 1) (n := 5) (Nat.le_refl _) (Nat.le_refl _) ?_
  refine lv_dup (pc := 29) hx hb dX11_image_29 rfl ?_
  have hPc : va_P D vwCl [(q, .inr (9, [.null, .null, .null, .null, .null]))] H := P_r hP
  have hDc : va_D (AB 54 a s.heap.size) [(q, .inr (9, [.null, .null, .null, .null, .null]))] := D_r hD
  have hFc : ∀ z, va_A [(q, .inr (9, [.null, .null, .null, .null, .null]))] H.size z → AB 54 a s.heap.size z := by
    intro z hz
    rcases hz with ⟨k9, e9, h9⟩ | h9
    · exact hDc.2 k9 _ h9
    · exact hA z (Nat.le_trans hS.1 h9)
  refine va_callv (pc := 30) (va_runIN (As := []) (rest := [.ref q, .int p1, .ref (a 17)]) ⟨hx, hb, hml, hown, hts⟩ (x_X9 l D cI cJ cR tF tL tM q H.size) ⟨va_cnB 0 hts (gdC co_X9_init) rfl rfl rfl (nl_X11_11 hN) (hts _ in_X9) (by decide +kernel) ⟨Nat.le_trans (by decide) hF, Nat.le_trans (by decide) hLo⟩, rfl, hts _ im_X9_init⟩ ⟨PZ_blind, fun U hU hW => ⟨rfl, ⟨by rw [hU], by rw [hU]; exact hPc, va_K.moved hW.alike hK, hDc.weaken (fun _ _ _ _ => trivial), hN.warm hW⟩, hW0.warm hW, by rw [hU]; exact (((hZ.kept hS.2.1).moved hW.alike).narrow hFc)⟩⟩ rfl rfl hl.1 rfl (lv_room (Nat.le_of_ble_eq_true rfl)) dX11_image_30 ⟨Nat.le_trans (by decide) hcs.1, Nat.le_trans (by decide) hcs.2⟩) hS (fun z _ h9 => hFc z h9) hFc (fun v t H1 locs ht hvm hw hB hz1 hk1 hS => ?_)
  obtain ⟨hP1, hD1⟩ := hB
  rw [ht] at hP1
  obtain ⟨hP, hD⟩ := J_r (w1 := wX 54 a (EB a cI cJ cR) u) (w2 := [(q, .inr (9, [.null, .null, .null, .null, .null]))]) hP hD (fun z h9 => h9) hk1 hFc hP1 hD1
  rw [wX_ext54 hq] at hP hD
  refine W.widen (k := 16) (n := 119) (Nat.le_of_ble_eq_true rfl) (Nat.le_of_ble_eq_true rfl) ?_
  obtain ⟨a2, ha2⟩ : ∃ a2 : Nat → Nat, a2 = ext 54 a (hd0 q v) := ⟨_, rfl⟩
  have e17 : a 17 = a2 17 := by rw [ha2]; rfl
  have eN : q = a2 54 := by rw [ha2]; rfl
  have e0 : a 0 = a2 0 := by rw [ha2]; rfl
  have hlo : ∀ c, c < 54 → a2 c = a c := fun c h9 => by rw [ha2]; exact if_pos h9
  rw [← ha2] at hP hD
  rw [e0] at hl
  rw [e17, eN]
  refine va_astq (pc := 33) (f := fun j => if (tw 54 u).1 17 j = 0 then none else some (a2 (ix ((tw 54 u).1 17 j)))) hx hb hK hP hD hS 17 2 54 9 (r := (RX9, TX9, 5)) (wX_at (by decide) rfl) rfl (wX_at (by decide) rfl) rfl hin dX11_image_33 (fun H locs hP hD hS => ?_)
  have hset : (wX 70 a2 (EB a2 cI cJ cR) (tw 54 u)).set 17 (a2 17, .inl (cR, 2, .inr (.inr (.inr (.inr (va_up (fun j => if (tw 54 u).1 17 j = 0 then none else some (a2 (ix ((tw 54 u).1 17 j)))) (ix p1) (some (a2 54)))))))) = wX 70 a2 (EB a2 cI cJ cR) (sI (tw 54 u) 17 (ix p1) 54) := by
    refine wX_set (by decide) (fun d hd => sI_o hd) (fun d hd => rfl) ?_
    rw [sI_s]
    have hfun : (fun j => if upd ((tw 54 u).1 17) (ix p1) 54 j = 0 then none else some (a2 (ix (upd ((tw 54 u).1 17) (ix p1) 54 j)))) = va_up (fun j => if (tw 54 u).1 17 j = 0 then none else some (a2 (ix ((tw 54 u).1 17 j)))) (ix p1) (some (a2 54)) := by
      funext j
      by_cases hj : j = ix p1
      · subst hj; simp only [upd, va_up, if_true]; rfl
      · simp only [upd, va_up, if_neg hj]
    exact congrArg (fun f => (Sum.inl (cR, 2, Sum.inr (Sum.inr (Sum.inr (Sum.inr f)))) : va_E)) hfun
  rw [hset] at hP hD
  have hAB : ∀ z, AB 70 a2 s.heap.size z → AB 54 a s.heap.size z := by
    intro z hz
    rcases hz with ⟨c9, h9, rfl⟩ | h9
    · exact hD.2 c9 _ (wX_at h9 rfl)
    · exact Or.inr h9
  have hBA : ∀ z, AB 54 a s.heap.size z → AB 70 a2 s.heap.size z := by
    intro z hz
    rcases hz with ⟨c9, h9, rfl⟩ | h9
    · exact Or.inl ⟨c9, Nat.lt_of_lt_of_le h9 (by decide), (hlo c9 h9).symm⟩
    · exact Or.inr h9
  have h : Hh D (AB 70 a2 s.heap.size) (wX 70 a2 (EB a2 cI cJ cR) (sI (tw 54 u) 17 (ix p1) 54)) s.heap H locs := ⟨hP, AB_D hD, hS.1, fun z h1 h2 => hS.2.1 z h1 (fun h3 => h2 (hBA z h3)), fun l9 h1 => hBA _ (hS.2.2 l9 h1)⟩
  have hN2 : 38 ≤ 70 := by decide
  have heq : (sI (tw 54 u) 17 (ix p1) 54).1 17 (ix p1) = 54 := by rw [sI_s]; simp [upd]
  refine lv_aload_n (pc := 34) hx hb dX11_image_34 rfl (lv_at hl 0 rfl) ?_
  refine gB_0_1 (pc := 35) hN2 hx hb hts hown hK h fl_X11_16 dX11_image_35 ?_
  refine lv_iload_n (pc := 38) hx hb dX11_image_38 rfl (lv_at hl 1 rfl) ?_
  refine gB_17 (pc := 39) hN2 hx hb hK h hin dX11_image_39 ?_
  refine rTopV (kq_n 54 54 heq (by decide) (by decide)) ?_
  refine lv_aload_n (pc := 40) hx hb dX11_image_40 rfl (lv_at hl 0 rfl) ?_
  refine gB_0_0 (pc := 41) hN2 hx hb hts hown hK h fl_X11_12 dX11_image_41 ?_
  refine k_X9_copyFrom_54_1 (pc := 44) (by decide) (by decide) hx hb hml hown hts hK hN hf ml_X11_340 (Nat.le_trans (by decide) hF) (Nat.le_trans (by decide) hLo) h hl.1 hcs (Nat.le_of_ble_eq_true rfl) dX11_image_44 (fun H locs h => ?_)
  refine lv_iconst (pc := 47) (v := 1) hx hb dX11_image_47 (by decide) ?_
  exact W.iret (v := 1) hx hb hr (fun t ht hW => ⟨⟨1, hd0 q v, rfl, rfl, by rw [ht, ← ha2]; exact h.1, by rw [← ha2]; exact h.2.1.weaken (fun _ _ _ h9 => hAB _ h9)⟩, ⟨by rw [ht]; exact h.2.2.1, fun z h1 h2 => by rw [ht]; exact h.2.2.2.1 z h1 (fun h3 => h2 (hAB z h3))⟩⟩) (fun z h9 => hAB _ (h.2.2.2.2 z h9)) dX11_image_48
