/-! ===== plan ===== -/
def lIM : Option (Nat × Nat) → Int32
  | none => 1000000
  | some (l, _) => nI l
theorem seM {m w : St} {t : Nat → Nat → Nat} {s d : Nat} (hM : MT m t) (hT : TK t) (hd0 : m.2 0 21 = 0) (hr0 : m.1 0 22 = 0) (hs : s < 256) (hsub : ∀ b, s / 2 ^ b % 2 = 1 → bt t b) (h4 : cqs s 8 ≤ 4) (hd : d < 2000) (hY : LY m w s) (h13 : ∀ b, b < 8 → w.1 13 b = nI (t 6 b)) (K : St → Int32 → Option (Int32 × St)) : ∃ q, lq_3 (B_X12_plan_108 (nI d) (nI (t 2 2 ^ cqs s 8)) K) FU w 1000000 0 = K q (lIM (BSp t s d (t 2 2 ^ cqs s 8))) ∧ Km m q ∧ ∀ l way, BSp t s d (t 2 2 ^ cqs s 8) = some (l, way) → ∀ b, b < 8 → q.1 16 b = nI (atw t s (wy t s way) b) := by
  have hcn := K_cnt hT
  have hmx := cpw hT h4 (Nat.le_refl _)
  have hat : ∀ way b, b < 8 → atw t s (wy t s way) b < 6 := fun way b hb => by
    unfold atw
    split
    · have := gd_lt hT (n := cqs s 8) (way := way) (i := cqs s b); show gd _ _ _ _ < 6; omega
    · exact (K_bar hT hb).1
  refine mw_3 (P := fun i (q : St) (x y : Int32) => y = nI i ∧ x = lIM (BSp t s d i) ∧ LY m q s ∧ (∃ p : Nat → Nat, (∀ b, b < 8 → q.1 13 b = nI (p b)) ∧ ∀ b, b < 8 → ¬ s / 2 ^ b % 2 = 1 → p b = t 6 b) ∧ ∀ l way, BSp t s d i = some (l, way) → ∀ b, b < 8 → q.1 16 b = nI (atw t s (wy t s way) b)) (Q := fun o => ∃ q, o = K q (lIM (BSp t s d (t 2 2 ^ cqs s 8))) ∧ Km m q ∧ ∀ l way, BSp t s d (t 2 2 ^ cqs s 8) = some (l, way) → ∀ b, b < 8 → q.1 16 b = nI (atw t s (wy t s way) b)) (t 2 2 ^ cqs s 8) ?_ ?_ (FU_lt (by omega)) ⟨rfl, rfl, hY, ⟨fun b => t 6 b, h13, fun b _ _ => rfl⟩, fun l way e => by cases e⟩
  · rintro i q x y hi ⟨rfl, rfl, hYq, ⟨p, hp, hpo⟩, h16⟩
    have hMq := MT_km hM hYq.1
    obtain ⟨q2, e1, e2, e3, e4⟩ := spM hMq hT hs h4 hYq hp hpo (way := i) (by omega)
    have hY2 := LY_13 hYq e2 e3
    have hMq2 := MT_km hM hY2.1
    have hLq2 : LM q2 (lev t) := LM_is hMq2 hT (by rw [hY2.1.2.2]; exact hd0) (by rw [hY2.1.2.1 22 (by omega)]; exact hr0)
    have hgl : ∀ k, k < cqs s 8 → wy t s i k < t 2 2 := fun k _ => gd_lt hT
    have hwp := wpM (g := wy t s i) hMq2 hT hLq2 hs hsub h4 hY2 hgl (fun b hb => ⟨e4 b hb, hat i b hb⟩) hd
    have hwl := wkS_le (n := cqs s 8) hT hs h4 hgl (Nat.le_refl _)
    have hbl : ∀ l way, BSp t s d i = some (l, way) → l ≤ 324 := fun l way e => (BS_le (fun j => wkS_le (n := cqs s 8) hT hs h4 (fun k hk => gd_lt hT) (Nat.le_refl _)) e).1
    have hst : BSp t s d (i + 1) = if cbF t s d (wy t s i) then bsU (BSp t s d i) (wkS t s (wy t s i) (cqs s 8)) i else BSp t s d i := rfl
    obtain ⟨q3, c1, c2, c3, c4⟩ := cpM e4
    have hY3 : LY m q3 s := ⟨⟨fun c hc => by
        by_cases h9 : c = 16
        · omega
        · rw [c2 c h9]; exact hY2.1.1 c hc, fun k hk => by rw [c2 0 (by omega)]; exact hY2.1.2.1 k hk, by rw [c3]; exact hY2.1.2.2⟩, by rw [c2 0 (by omega)]; exact hY2.2.1, fun k hk => by rw [c2 15 (by omega)]; exact hY2.2.2 k hk⟩
    have hp2 : ∃ p : Nat → Nat, (∀ b, b < 8 → q2.1 13 b = nI (p b)) ∧ ∀ b, b < 8 → ¬ s / 2 ^ b % 2 = 1 → p b = t 6 b := ⟨atw t s (wy t s i), e4, fun b _ h => by unfold atw; rw [if_neg h]⟩
    have hp3 : ∃ p : Nat → Nat, (∀ b, b < 8 → q3.1 13 b = nI (p b)) ∧ ∀ b, b < 8 → ¬ s / 2 ^ b % 2 = 1 → p b = t 6 b := ⟨atw t s (wy t s i), fun b hb => by rw [c2 13 (by omega)]; exact e4 b hb, fun b _ h => by unfold atw; rw [if_neg h]⟩
    have h162 : ∀ l way, BSp t s d i = some (l, way) → ∀ b, b < 8 → q2.1 16 b = nI (atw t s (wy t s way) b) := fun l way e b hb => by rw [e2 16 (by omega)]; exact h16 l way e b hb
    have pre : ∀ rec, B_X12_plan_108 (nI d) (nI (t 2 2 ^ cqs s 8)) K rec q (lIM (BSp t s d i)) (nI i) = b1 (some (if cbF t s d (wy t s i) then nI (wkS t s (wy t s i) (cqs s 8)) else -6)) (fun (x29 : Int32) => if x29 < 0 then rec q2 (lIM (BSp t s d i)) (nI (i + 1)) else if lIM (BSp t s d i) ≤ x29 then rec q2 (lIM (BSp t s d i)) (nI (i + 1)) else rec q3 x29 (nI (i + 1))) := by
      intro rec
      unfold B_X12_plan_108
      rw [if_neg (nI_ge hi (by omega)), jq1, hYq.2.1, e1, hwp, nI_1]
      refine congrArg _ (funext fun x29 => ?_)
      rw [jq1, c1]
    have hw0 : ¬ nI (wkS t s (wy t s i) (cqs s 8)) < (0 : Int32) := nge (by omega)
    cases hF : cbF t s d (wy t s i) with
    | false =>
      rw [hF] at hst pre
      rw [if_neg (show ¬ false = true by decide)] at hst
      refine Or.inl ⟨q2, _, _, fun rec => ?_, ⟨rfl, rfl, hY2, hp2, by rw [hst]; exact h162⟩⟩
      rw [pre, b1E, if_neg (show ¬ false = true by decide), if_pos (show (-6 : Int32) < 0 by decide), hst]
    | true =>
      rw [hF] at hst pre
      rw [if_pos rfl] at hst
      cases hb : BSp t s d i with
      | none =>
        rw [hb] at hst pre
        refine Or.inl ⟨q3, _, _, fun rec => ?_, ⟨rfl, rfl, hY3, hp3, fun l way e b hb8 => ?_⟩⟩
        · rw [pre, b1E, if_pos rfl, if_neg hw0, if_neg (show ¬ lIM none ≤ nI (wkS t s (wy t s i) (cqs s 8)) from nI_ge (b := 1000000) (by omega) (by omega)), hst]; rfl
        · rw [hst] at e; cases e; exact c4 b hb8
      | some x =>
        obtain ⟨l0, w0⟩ := x
        have hl0 := hbl l0 w0 hb
        rw [hb] at hst pre
        by_cases hle : l0 ≤ wkS t s (wy t s i) (cqs s 8)
        · have hst2 : BSp t s d (i + 1) = some (l0, w0) := by rw [hst]; exact if_pos hle
          refine Or.inl ⟨q2, _, _, fun rec => ?_, ⟨rfl, rfl, hY2, hp2, by rw [hst2, ← hb]; exact h162⟩⟩
          rw [pre, b1E, if_pos rfl, if_neg hw0, if_pos (show lIM (some (l0, w0)) ≤ nI (wkS t s (wy t s i) (cqs s 8)) from nI_le hle (by omega)), hst2]
        · have hst2 : BSp t s d (i + 1) = some (wkS t s (wy t s i) (cqs s 8), i) := by rw [hst]; exact if_neg hle
          refine Or.inl ⟨q3, _, _, fun rec => ?_, ⟨rfl, rfl, hY3, hp3, fun l way e b hb8 => ?_⟩⟩
          · rw [pre, b1E, if_pos rfl, if_neg hw0, if_neg (show ¬ lIM (some (l0, w0)) ≤ nI (wkS t s (wy t s i) (cqs s 8)) from nI_ge (by omega) (by omega)), hst2]; rfl
          · rw [hst2] at e; cases e; exact c4 b hb8
  · rintro q x y ⟨rfl, rfl, hYq, -, h16⟩ rec
    unfold B_X12_plan_108
    rw [if_pos (Int32.le_refl _)]
    exact ⟨q, rfl, hYq.1, h16⟩
theorem s_plan : Sp_plan Inv := by
  intro N u m p1 p2 p3 hi0
  obtain ⟨t, hU, hM, hT, hP, hI, hd, hr⟩ := id hi0
  have h54 := K_the hT
  have hcn := K_cnt hT
  unfold f_X11_plan f_X12_plan f_X7_hasAll
  rw [U_the hU, M_the hM]
  by_cases hall : p1 &&& (nI (t 5 4) ^^^ (-1 : Int32)) = 0
  rotate_left
  · rw [if_neg hall, b1E, if_pos rfl, in_ev (a := 0) (b := 255) (lo := 0) (hi := 255) rfl rfl, b1E, if_neg hall]
    refine ⟨_, _, m, rfl, ?_, hi0⟩
    split <;> rfl
  obtain ⟨s, hs, rfl, hsub0⟩ := sub_cs h54 hall
  have hsub : ∀ b, s / 2 ^ b % 2 = 1 → bt t b := hsub0
  rw [if_pos hall, b1E, if_neg n10, in_ev (a := 0) (b := 255) (lo := 0) (hi := 255) rfl rfl, b1E, if_pos (show (0 : Int32) ≤ nI s ∧ nI s ≤ 255 from ⟨nI_pos' (by omega), nI_le (b := 255) (by omega) (by omega)⟩), if_neg n10, if_pos hall]
  by_cases h : (0 : Int32) ≤ p2 ∧ p2 ≤ 999
  rotate_left
  · rw [(days_no (u := u) (m := m) h).1, (days_no (u := u) (m := m) h).2, b1E, b1E, if_pos rfl, if_pos rfl]
    exact ⟨_, _, _, rfl, rfl, hi0⟩
  obtain ⟨e1, e2, d, hd9, rfl⟩ := days_yes (u := u) (m := m) h
  rw [e1, e2, b1E, b1E, if_neg n10, if_neg n10, jq0, jq0, bc_ev hs, on_ev hs, b1E, b1E, pcc s hs]
  have h8 := cqs_le (s := s) (n := 8)
  -- the search, for a barrel of the set or for all
  have main : (p3 = -1 ∨ ∃ b, b < 8 ∧ p3 = nI b ∧ s / 2 ^ b % 2 = 1) → ∃ (r : Int32) (u2 μ2 : St), (if nI (cqs s 8) ≤ 4 then b1 (f_X0_asItIs u) (fun (u8 : St) => b1 (f_X4_choose u8 (nI s) (nI d)) (fun (u9 : St) => b2 (f_X4_search u9) (fun (x10 : Int32) (u11 : St) => if p3 = ((-1)) then some (x10, u11) else if x10 = ((-6)) then some (x10, u11) else b1 (f_X4_cellarOf u11 p3) (fun (x14 : Int32) => some (x14, u11))))) else some ((-4), u)) = some (r, u2) ∧ (if nI (cqs s 8) ≤ 4 then b1 (f_X12_layMembers m (nI s)) (fun (u9 : St) => jq_1 (fun (x13 : Int32) => jq_2 (fun (u18 : St) (x19 : Int32) => if x19 = 1000000 then some ((-6), u18) else if p3 = ((-1)) then some (x19, u18) else cki p3 8 (some (u18.1 16 (ix p3), u18))) (fun (k17 : St → Int32 → Option (Int32 × St)) => lq_3 (B_X12_plan_108 (nI d) x13 k17) FU u9 1000000 0)) (fun (k12 : Int32 → Option (Int32 × St)) => lq_2 (B_X12_plan_77 u9 k12) FU 1 0)) else some ((-4), m)) = some (r, μ2) ∧ Inv N u2 μ2 := by
    intro hp3
    by_cases h4 : cqs s 8 ≤ 4
    rotate_left
    · rw [if_neg (show ¬ nI (cqs s 8) ≤ 4 from nI_ge (a := 4) (by omega) (by omega)), if_neg (show ¬ nI (cqs s 8) ≤ 4 from nI_ge (a := 4) (by omega) (by omega))]
      exact ⟨_, _, _, rfl, rfl, hi0⟩
    rw [if_pos (show nI (cqs s 8) ≤ 4 from nI_le (b := 4) h4 (by omega)), if_pos (show nI (cqs s 8) ≤ 4 from nI_le (b := 4) h4 (by omega))]
    obtain ⟨v, ev, hA⟩ := asI hU hT
    obtain ⟨z, ez, z1, hC⟩ := chC hT (As_AL hT hA) hs hsub h4 (d := d) (by omega)
    obtain ⟨q, eq, q1, q2⟩ := seC hT hs h4 hC
    have hCq := CH_tr hC q1
    have hkq : Kp u q := fun c hc => by rw [q1 c (by omega) (by omega), z1 c (by omega)]; exact hA.1 c hc
    obtain ⟨w, ew, hY, h13⟩ := lyM hM hT hs
    have hMw := MT_km hM hY.1
    have hmx := cpw hT h4 (Nat.le_refl _)
    have ws : ∀ K : Int32 → Option (Int32 × St), lq_2 (B_X12_plan_77 w K) FU 1 0 = K (nI (t 2 2 ^ cqs s 8)) := by
      intro K
      refine mr_2 (fun i => nI (t 2 2 ^ i)) nI (cqs s 8) ?_ ?_ (FU_lt (by omega)) rfl rfl
      · intro i hi rec
        unfold B_X12_plan_77
        rw [hY.2.1, if_neg (nI_ge hi (by omega)), M_cnt hMw, pk_mul, nI_1, Nat.pow_succ]
      · intro rec
        unfold B_X12_plan_77
        rw [hY.2.1, if_pos (Int32.le_refl _)]
    rw [ev, b1E, ez, b1E, eq, b2E, ew, b1E, jq1, ws, jq2]
    obtain ⟨w2, f1, f2, f3⟩ := seM hM hT hd hr hs hsub h4 (d := d) (by omega) hY h13 (fun (u18 : St) (x19 : Int32) => if x19 = 1000000 then some ((-6), u18) else if p3 = ((-1)) then some (x19, u18) else cki p3 8 (some (u18.1 16 (ix p3), u18)))
    rw [f1]
    have hI2 := Inv_keep hi0 hkq f2
    have hbl : ∀ l way, BSp t s d (t 2 2 ^ cqs s 8) = some (l, way) → l ≤ 324 := fun l way e => (BS_le (fun j => wkS_le (n := cqs s 8) hT hs h4 (fun k hk => gd_lt hT) (Nat.le_refl _)) e).1
    cases hb : BSp t s d (t 2 2 ^ cqs s 8) with
    | none =>
      rw [show lI6 none = -6 from rfl, show lIM none = 1000000 from rfl]
      refine ⟨-6, q, w2, ?_, if_pos rfl, hI2⟩
      by_cases h9 : p3 = -1
      · rw [if_pos h9]
      · rw [if_neg h9, if_pos rfl]
    | some x =>
      obtain ⟨l, way⟩ := x
      have hl := hbl l way hb
      have nm : ¬ lIM (some (l, way)) = 1000000 := fun h9 => absurd ((nI_eq (b := 1000000) (by omega) (by decide)).mp h9) (by omega)
      have n6 : ¬ lI6 (some (l, way)) = (-6 : Int32) := fun h9 => by have := nn6 (q := l) (by omega); exact this.mp h9
      rcases hp3 with hp3 | ⟨b, hb8, hp3, hbit⟩
      · refine ⟨nI l, q, w2, ?_, ?_, hI2⟩
        · rw [if_pos hp3]; rfl
        · refine (if_neg nm).trans ?_
          rw [if_pos hp3]; rfl
      · have hne : ¬ p3 = -1 := by rw [hp3]; exact fun h9 => by have := nn1 (q := b) (by omega); exact this.mp h9
        subst hp3
        refine ⟨nI (wy t s way (cqs s b)), q, w2, ?_, ?_, hI2⟩
        · rw [if_neg hne, if_neg n6, coC hs h4 hCq hb8 hbit (q2 l way hb), b1E]
        · refine (if_neg nm).trans ?_
          rw [if_neg hne, ckiT hb8 (by decide), ixN (by omega), f3 l way hb b hb8]
          unfold atw
          rw [if_pos hbit]
  by_cases h1 : p3 = -1
  · rw [if_pos h1, if_pos h1]; exact main (Or.inl h1)
  rw [if_neg h1, if_neg h1]
  have bad : f_X11_hasBit u (nI s) p3 = some 0 → (f_X12_isNumber m p3 = some 0 ∨ (f_X12_isNumber m p3 = some 1 ∧ ((nI s >>> (p3 &&& 31)) &&& (1 : Int32)) = 0)) → ∀ X Y : Option (Int32 × St), ∃ (r : Int32) (u2 μ2 : St), b1 (f_X11_hasBit u (nI s) p3) (fun (x16 : Int32) => if x16 = 0 then some ((-1), u) else X) = some (r, u2) ∧ b1 (f_X12_isNumber m p3) (fun (x45 : Int32) => if x45 = 0 then some ((-1), m) else if ((nI s >>> (p3 &&& 31)) &&& (1 : Int32)) = 0 then some ((-1), m) else Y) = some (r, μ2) ∧ Inv N u2 μ2 := by
    intro g1 g2 X Y
    rw [g1, b1E, if_pos rfl]
    rcases g2 with g2 | ⟨g2, g3⟩
    · rw [g2, b1E, if_pos rfl]; exact ⟨_, _, _, rfl, rfl, hi0⟩
    · rw [g2, b1E, if_neg n10, if_pos g3]; exact ⟨_, _, _, rfl, rfl, hi0⟩
  rcases pk_ix p3 (n := 8) (by omega) with hx | hx | ⟨b, hb, rfl⟩
  · refine bad ?_ (Or.inl (in_no _ (Or.inl hx))) _ _
    unfold f_X11_hasBit; rw [if_pos hx]
  · refine bad ?_ (Or.inl (in_no _ (Or.inr hx))) _ _
    have hn : ¬ p3 < 0 := fun h9 => absurd (Int32.lt_of_le_of_lt hx h9) (by decide)
    obtain ⟨k, hk, rfl⟩ := nI_of hn
    have hk8 := (nI_leI (a := 8) (by decide) hk).mp hx
    by_cases hk31 : k < 31
    · rw [hbit_ev (by omega) hk31, if_neg (by rw [bit_hi (L := 8) (by omega) hk8]; omega)]
    · unfold f_X11_hasBit; rw [if_neg hn, if_pos (le_l (l := 31) 31 rfl (by omega) hk)]
  · by_cases hbit : s / 2 ^ b % 2 = 1
    · rw [hbit_ev (by omega) (by omega), if_pos hbit, b1E, if_neg n10, in_yes hb, b1E, if_neg n10, bitN (by omega) (by omega), hbit, if_neg (show ¬ nI 1 = 0 by decide)]
      exact main (Or.inr ⟨b, hb, rfl, hbit⟩)
    · refine bad (by rw [hbit_ev (by omega) (by omega), if_neg hbit]) (Or.inr ⟨in_yes hb, ?_⟩) _ _
      rw [bitN (by omega) (by omega), show s / 2 ^ b % 2 = 0 by omega]; rfl
