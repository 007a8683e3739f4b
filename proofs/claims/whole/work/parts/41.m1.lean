/-! ===== the invariant ===== -/
def TD (c k : Nat) : Prop := (c = 2 ∧ (k = 2 ∨ k = 3)) ∨ (c = 3 ∧ k < 6) ∨ (c = 4 ∧ k < 6) ∨ (c = 5 ∧ k = 4) ∨ (6 ≤ c ∧ c ≤ 9 ∧ k < 8) ∨ (c = 10 ∧ k = 1) ∨ (c = 11 ∧ k < 30) ∨ (c = 12 ∧ k = 3) ∨ (13 ≤ c ∧ c ≤ 15 ∧ k < 6) ∨ (c = 16 ∧ k < 7)
/-- a town of the class, at its cells -/
def UT (u : St) (t : Nat → Nat → Nat) (o : Nat) : Prop := ∀ c k, TD c k → u.1 (o + c) k = nI (t c k)
/-- the town of the reference -/
def MT (m : St) (t : Nat → Nat → Nat) : Prop :=
  m.1 0 0 = nI (t 2 2) ∧ m.1 0 3 = nI (t 2 3) ∧ (∀ k, k < 6 → m.1 1 k = nI (t 3 k)) ∧ (∀ k, k < 6 → m.1 2 k = nI (t 4 k)) ∧ m.1 0 4 = nI (t 5 4) ∧
  (∀ b, b < 8 → m.1 3 b = nI (t 6 b)) ∧ (∀ b, b < 8 → m.1 4 b = nI (t 7 b)) ∧ (∀ b, b < 8 → m.1 5 b = nI (t 8 b)) ∧ (∀ b, b < 8 → m.1 6 b = nI (t 9 b)) ∧
  m.1 0 10 = nI (t 10 1) ∧ (∀ k, k < 30 → m.1 7 k = nI (t 11 k)) ∧ m.1 0 18 = nI (t 12 3) ∧
  (∀ k, k < 6 → m.1 9 k = nI (t 13 k)) ∧ (∀ k, k < 6 → m.1 10 k = nI (t 14 k)) ∧ (∀ k, k < 6 → m.1 11 k = nI (t 15 k)) ∧
  m.1 0 11 = nI (t 16 0) ∧ m.1 0 12 = nI (t 16 1) ∧ m.1 0 13 = nI (t 16 2) ∧ (∀ k, k < 4 → m.1 8 k = nI (t 16 (3 + k)))
/-- a barrel is there -/
def bt (t : Nat → Nat → Nat) (b : Nat) : Prop := t 5 4 / 2 ^ b % 2 = 1
/-- how many of the first n numbers have p -/
def cq (p : Nat → Bool) : Nat → Nat
  | 0 => 0
  | n + 1 => cq p n + (if p n then 1 else 0)
def lin (t : Nat → Nat → Nat) (c : Nat) : Nat → Bool := fun b => decide (t 5 4 / 2 ^ b % 2 = 1) && decide (t 6 b = c)
def TK (t : Nat → Nat → Nat) : Prop :=
  (1 ≤ t 2 2 ∧ t 2 2 ≤ 6) ∧ t 2 3 < 64 ∧ (∀ k, k < 6 → t 3 k ≤ 8) ∧ (∀ k, k < 6 → 1 ≤ t 4 k ∧ t 4 k ≤ 8) ∧ t 5 4 < 256 ∧
  (∀ b, b < 8 → t 6 b < 6 ∧ t 7 b ≤ 9 ∧ t 8 b ≤ 9 ∧ t 9 b ≤ 3) ∧ (∀ b, b < 8 → bt t b → t 6 b < t 2 2 ∧ 1 ≤ t 7 b) ∧
  (1 ≤ t 10 1 ∧ t 10 1 ≤ 30) ∧ (∀ k, k < 30 → t 11 k ≤ 9) ∧ t 12 3 ≤ 6 ∧ (∀ k, k < 6 → t 13 k < 8 ∧ t 14 k ≤ 30 ∧ t 15 k ≤ 99) ∧
  (1 ≤ t 16 0 ∧ t 16 2 ≤ 29 ∧ ∀ k, k < 7 → t 16 k ≤ 99) ∧ (∀ c, c < t 2 2 → cq (lin t c) 8 ≤ t 4 c)
def PD (u m : St) (t : Nat → Nat → Nat) : Prop := u.1 18 1 = nI (t 18 1) ∧ (∀ i, i < 60 → u.1 19 i = nI (t 19 i)) ∧ m.1 0 20 = nI (t 18 1) ∧ (∀ i, i < 60 → m.1 12 i = nI (t 19 i)) ∧ t 18 1 ≤ 60 ∧ (∀ i, i < 60 → t 19 i ≤ 126)
/-- an image of the reference -/
def KT (m : St) (t : Nat → Nat → Nat) (n : Nat) : Prop :=
  m.1 19 (150 * n) = nI (t 2 2) ∧ m.1 19 (150 * n + 1) = nI (t 2 3) ∧ m.1 19 (150 * n + 2) = nI (t 5 4) ∧ m.1 19 (150 * n + 3) = nI (t 10 1) ∧
  m.1 19 (150 * n + 4) = nI (t 16 0) ∧ m.1 19 (150 * n + 5) = nI (t 16 1) ∧ m.1 19 (150 * n + 6) = nI (t 16 2) ∧ m.1 19 (150 * n + 7) = nI (t 12 3) ∧
  (∀ k, k < 4 → m.1 19 (150 * n + 8 + k) = nI (t 16 (3 + k))) ∧
  (∀ k, k < 6 → m.1 19 (150 * n + 12 + 5 * k) = nI (t 3 k) ∧ m.1 19 (150 * n + 12 + 5 * k + 1) = nI (t 4 k) ∧ m.1 19 (150 * n + 12 + 5 * k + 2) = nI (t 13 k) ∧ m.1 19 (150 * n + 12 + 5 * k + 3) = nI (t 14 k) ∧ m.1 19 (150 * n + 12 + 5 * k + 4) = nI (t 15 k)) ∧
  (∀ b, b < 8 → m.1 19 (150 * n + 42 + 4 * b) = nI (t 6 b) ∧ m.1 19 (150 * n + 42 + 4 * b + 1) = nI (t 7 b) ∧ m.1 19 (150 * n + 42 + 4 * b + 2) = nI (t 8 b) ∧ m.1 19 (150 * n + 42 + 4 * b + 3) = nI (t 9 b)) ∧
  (∀ k, k < 30 → m.1 19 (150 * n + 74 + k) = nI (t 11 k))
def IMC (N : Nat) (x : Nat → Int32) : Prop := ((N = 38 ∧ x 0 = 0 ∧ x 1 = 0) ∨ (N = 54 ∧ x 0 = 38 ∧ x 1 = 0) ∨ (N = 54 ∧ x 0 = 0 ∧ x 1 = 38) ∨ (N = 70 ∧ x 0 = 38 ∧ x 1 = 54) ∨ (N = 70 ∧ x 0 = 54 ∧ x 1 = 38)) ∧ ∀ j, 2 ≤ j → x j = 0
def IM (N : Nat) (u m : St) : Prop := IMC N (u.1 17) ∧ (∀ n, n < 2 → (u.1 17 n = 0 ∧ m.1 20 n = 0) ∨ (m.1 20 n = 1 ∧ ∃ o, (o = 37 ∨ o = 53) ∧ u.1 17 n = nI (o + 1) ∧ ∃ tn, UT u tn o ∧ TK tn ∧ KT m tn n)) ∧ u.1 33 0 = 0
def Inv (N : Nat) (u m : St) : Prop := ∃ t, UT u t 0 ∧ MT m t ∧ TK t ∧ PD u m t ∧ IM N u m ∧ m.2 0 21 = 0 ∧ m.1 0 22 = 0
-- access
section AC
variable {u m : St} {t : Nat → Nat → Nat}
theorem U_at (h : UT u t 0) (c k : Nat) (hd : TD c k) : u.1 c k = nI (t c k) := by have := h c k hd; rwa [Nat.zero_add] at this
theorem U_cnt (h : UT u t 0) : u.1 2 2 = nI (t 2 2) := U_at h 2 2 (by unfold TD; omega)
theorem U_wal (h : UT u t 0) : u.1 2 3 = nI (t 2 3) := U_at h 2 3 (by unfold TD; omega)
theorem U_dep (h : UT u t 0) {k : Nat} (hk : k < 6) : u.1 3 k = nI (t 3 k) := U_at h 3 k (by unfold TD; omega)
theorem U_room (h : UT u t 0) {k : Nat} (hk : k < 6) : u.1 4 k = nI (t 4 k) := U_at h 4 k (by unfold TD; omega)
theorem U_the (h : UT u t 0) : u.1 5 4 = nI (t 5 4) := U_at h 5 4 (by unfold TD; omega)
theorem U_lie (h : UT u t 0) {k : Nat} (hk : k < 8) : u.1 6 k = nI (t 6 k) := U_at h 6 k (by unfold TD; omega)
theorem U_siz (h : UT u t 0) {k : Nat} (hk : k < 8) : u.1 7 k = nI (t 7 k) := U_at h 7 k (by unfold TD; omega)
theorem U_cor (h : UT u t 0) {k : Nat} (hk : k < 8) : u.1 8 k = nI (t 8 k) := U_at h 8 k (by unfold TD; omega)
theorem U_kin (h : UT u t 0) {k : Nat} (hk : k < 8) : u.1 9 k = nI (t 9 k) := U_at h 9 k (by unfold TD; omega)
theorem U_len (h : UT u t 0) : u.1 10 1 = nI (t 10 1) := U_at h 10 1 (by unfold TD; omega)
theorem U_dig (h : UT u t 0) {k : Nat} (hk : k < 30) : u.1 11 k = nI (t 11 k) := U_at h 11 k (by unfold TD; omega)
theorem U_sc (h : UT u t 0) : u.1 12 3 = nI (t 12 3) := U_at h 12 3 (by unfold TD; omega)
theorem U_sb (h : UT u t 0) {k : Nat} (hk : k < 6) : u.1 13 k = nI (t 13 k) := U_at h 13 k (by unfold TD; omega)
theorem U_sd (h : UT u t 0) {k : Nat} (hk : k < 6) : u.1 14 k = nI (t 14 k) := U_at h 14 k (by unfold TD; omega)
theorem U_sa (h : UT u t 0) {k : Nat} (hk : k < 6) : u.1 15 k = nI (t 15 k) := U_at h 15 k (by unfold TD; omega)
theorem U_set (h : UT u t 0) {k : Nat} (hk : k < 7) : u.1 16 k = nI (t 16 k) := U_at h 16 k (by unfold TD; omega)
theorem M_cnt (h : MT m t) : m.1 0 0 = nI (t 2 2) := h.1
theorem M_wal (h : MT m t) : m.1 0 3 = nI (t 2 3) := h.2.1
theorem M_dep (h : MT m t) {k : Nat} (hk : k < 6) : m.1 1 k = nI (t 3 k) := h.2.2.1 k hk
theorem M_room (h : MT m t) {k : Nat} (hk : k < 6) : m.1 2 k = nI (t 4 k) := h.2.2.2.1 k hk
theorem M_the (h : MT m t) : m.1 0 4 = nI (t 5 4) := h.2.2.2.2.1
theorem M_lie (h : MT m t) {k : Nat} (hk : k < 8) : m.1 3 k = nI (t 6 k) := h.2.2.2.2.2.1 k hk
theorem M_siz (h : MT m t) {k : Nat} (hk : k < 8) : m.1 4 k = nI (t 7 k) := h.2.2.2.2.2.2.1 k hk
theorem M_cor (h : MT m t) {k : Nat} (hk : k < 8) : m.1 5 k = nI (t 8 k) := h.2.2.2.2.2.2.2.1 k hk
theorem M_kin (h : MT m t) {k : Nat} (hk : k < 8) : m.1 6 k = nI (t 9 k) := h.2.2.2.2.2.2.2.2.1 k hk
theorem M_len (h : MT m t) : m.1 0 10 = nI (t 10 1) := h.2.2.2.2.2.2.2.2.2.1
theorem M_dig (h : MT m t) {k : Nat} (hk : k < 30) : m.1 7 k = nI (t 11 k) := h.2.2.2.2.2.2.2.2.2.2.1 k hk
theorem M_sc (h : MT m t) : m.1 0 18 = nI (t 12 3) := h.2.2.2.2.2.2.2.2.2.2.2.1
theorem M_sb (h : MT m t) {k : Nat} (hk : k < 6) : m.1 9 k = nI (t 13 k) := h.2.2.2.2.2.2.2.2.2.2.2.2.1 k hk
theorem M_sd (h : MT m t) {k : Nat} (hk : k < 6) : m.1 10 k = nI (t 14 k) := h.2.2.2.2.2.2.2.2.2.2.2.2.2.1 k hk
theorem M_sa (h : MT m t) {k : Nat} (hk : k < 6) : m.1 11 k = nI (t 15 k) := h.2.2.2.2.2.2.2.2.2.2.2.2.2.2.1 k hk
theorem M_sour (h : MT m t) : m.1 0 11 = nI (t 16 0) := h.2.2.2.2.2.2.2.2.2.2.2.2.2.2.2.1
theorem M_hands (h : MT m t) : m.1 0 12 = nI (t 16 1) := h.2.2.2.2.2.2.2.2.2.2.2.2.2.2.2.2.1
theorem M_ph (h : MT m t) : m.1 0 13 = nI (t 16 2) := h.2.2.2.2.2.2.2.2.2.2.2.2.2.2.2.2.2.1
theorem M_peak (h : MT m t) {k : Nat} (hk : k < 4) : m.1 8 k = nI (t 16 (3 + k)) := h.2.2.2.2.2.2.2.2.2.2.2.2.2.2.2.2.2.2 k hk
theorem K_cnt (h : TK t) : 1 ≤ t 2 2 ∧ t 2 2 ≤ 6 := h.1
theorem K_wal (h : TK t) : t 2 3 < 64 := h.2.1
theorem K_dep (h : TK t) {k : Nat} (hk : k < 6) : t 3 k ≤ 8 := h.2.2.1 k hk
theorem K_room (h : TK t) {k : Nat} (hk : k < 6) : 1 ≤ t 4 k ∧ t 4 k ≤ 8 := h.2.2.2.1 k hk
theorem K_the (h : TK t) : t 5 4 < 256 := h.2.2.2.2.1
theorem K_bar (h : TK t) {b : Nat} (hb : b < 8) : t 6 b < 6 ∧ t 7 b ≤ 9 ∧ t 8 b ≤ 9 ∧ t 9 b ≤ 3 := h.2.2.2.2.2.1 b hb
theorem K_there (h : TK t) {b : Nat} (hb : b < 8) (hh : bt t b) : t 6 b < t 2 2 ∧ 1 ≤ t 7 b := h.2.2.2.2.2.2.1 b hb hh
theorem K_len (h : TK t) : 1 ≤ t 10 1 ∧ t 10 1 ≤ 30 := h.2.2.2.2.2.2.2.1
theorem K_dig (h : TK t) {k : Nat} (hk : k < 30) : t 11 k ≤ 9 := h.2.2.2.2.2.2.2.2.1 k hk
theorem K_sc (h : TK t) : t 12 3 ≤ 6 := h.2.2.2.2.2.2.2.2.2.1
theorem K_si (h : TK t) {k : Nat} (hk : k < 6) : t 13 k < 8 ∧ t 14 k ≤ 30 ∧ t 15 k ≤ 99 := h.2.2.2.2.2.2.2.2.2.2.1 k hk
theorem K_set (h : TK t) : 1 ≤ t 16 0 ∧ t 16 2 ≤ 29 ∧ ∀ k, k < 7 → t 16 k ≤ 99 := h.2.2.2.2.2.2.2.2.2.2.2.1
theorem K_cap (h : TK t) {c : Nat} (hc : c < t 2 2) : cq (lin t c) 8 ≤ t 4 c := h.2.2.2.2.2.2.2.2.2.2.2.2 c hc
end AC
/-! ===== what a query may change ===== -/
def Kp (u u2 : St) : Prop := ∀ c, (c < 20 ∨ 38 ≤ c ∨ c = 33) → u2.1 c = u.1 c
def Km (m m2 : St) : Prop := (∀ c, (1 ≤ c ∧ c < 13) ∨ 18 < c → m2.1 c = m.1 c) ∧ (∀ k, k < 25 → m2.1 0 k = m.1 0 k) ∧ m2.2 0 21 = m.2 0 21
theorem Kp_rf {u : St} : Kp u u := fun _ _ => rfl
theorem Kp_tr {u v w : St} (h1 : Kp u v) (h2 : Kp v w) : Kp u w := fun c hc => (h2 c hc).trans (h1 c hc)
theorem Km_rf {u : St} : Km u u := ⟨fun _ _ => rfl, fun _ _ => rfl, rfl⟩
theorem Km_tr {u v w : St} (h1 : Km u v) (h2 : Km v w) : Km u w := ⟨fun c hc => (h2.1 c hc).trans (h1.1 c hc), fun k hk => (h2.2.1 k hk).trans (h1.2.1 k hk), h2.2.2.trans h1.2.2⟩
theorem Kp_sI {u v : St} {c k : Nat} {x : Int32} (h : Kp u v) (hc : 20 ≤ c ∧ c < 38 ∧ c ≠ 33) : Kp u (sI v c k x) := fun d hd => by rw [sI_o (by omega)]; exact h d hd
theorem Kp_sA {u v : St} {c : Nat} {f : Nat → Int32} (h : Kp u v) (hc : 20 ≤ c ∧ c < 38 ∧ c ≠ 33) : Kp u (sA v c f) := fun d hd => by rw [sA_o (by omega)]; exact h d hd
theorem Kp_sL {u v : St} {c k : Nat} {x : Int64} (h : Kp u v) : Kp u (sL v c k x) := h
theorem Kp_sB {u v : St} {c : Nat} {f : Nat → Int64} (h : Kp u v) : Kp u (sB v c f) := h
theorem Km_sI {u v : St} {c k : Nat} {x : Int32} (h : Km u v) (hc : 13 ≤ c ∧ c ≤ 18) : Km u (sI v c k x) := ⟨fun d hd => by rw [sI_o (by omega)]; exact h.1 d hd, fun j hj => by rw [sI_o (by omega)]; exact h.2.1 j hj, h.2.2⟩
theorem Km_s0 {u v : St} {k : Nat} {x : Int32} (h : Km u v) (hk : 25 ≤ k) : Km u (sI v 0 k x) := ⟨fun d hd => by rw [sI_o (by omega)]; exact h.1 d hd, fun j hj => by rw [sI_s, pk_un (by omega)]; exact h.2.1 j hj, h.2.2⟩
theorem UT_kp {u u2 : St} {t : Nat → Nat → Nat} {o : Nat} (h : UT u t o) (ho : o = 0 ∨ 37 ≤ o) (hk : Kp u u2) : UT u2 t o := fun c k hd => by
  have hc : 1 ≤ c ∧ c ≤ 16 := by unfold TD at hd; omega
  rw [hk (o + c) (by omega)]; exact h c k hd
theorem MT_km {m m2 : St} {t : Nat → Nat → Nat} (h : MT m t) (hk : Km m m2) : MT m2 t := by
  obtain ⟨k1, k2, -⟩ := hk
  unfold MT at h ⊢
  rw [k2 0 (by omega), k2 3 (by omega), k2 4 (by omega), k2 10 (by omega), k2 18 (by omega), k2 11 (by omega), k2 12 (by omega), k2 13 (by omega), k1 1 (by omega), k1 2 (by omega), k1 3 (by omega), k1 4 (by omega), k1 5 (by omega), k1 6 (by omega), k1 7 (by omega), k1 8 (by omega), k1 9 (by omega), k1 10 (by omega), k1 11 (by omega)]
  exact h
theorem KT_km {m m2 : St} {t : Nat → Nat → Nat} {n : Nat} (h : KT m t n) (he : m2.1 19 = m.1 19) : KT m2 t n := by
  unfold KT at h ⊢
  rw [he]; exact h
theorem IM_keep {N : Nat} {u m u2 m2 : St} (h : IM N u m) (h17 : u2.1 17 = u.1 17) (hu : ∀ c, 38 ≤ c ∨ c = 33 → u2.1 c = u.1 c) (h19 : m2.1 19 = m.1 19) (h20 : m2.1 20 = m.1 20) : IM N u2 m2 := by
  refine ⟨by rw [h17]; exact h.1, fun n hn => ?_, by rw [hu 33 (by omega)]; exact h.2.2⟩
  rw [h17, h20]
  rcases h.2.1 n hn with h1 | ⟨h1, o, ho, hc, tn, hU, hT, hK⟩
  · exact Or.inl h1
  · refine Or.inr ⟨h1, o, ho, hc, tn, fun c k hd => ?_, hT, KT_km hK h19⟩
    have hc1 : 1 ≤ c := by unfold TD at hd; omega
    rw [hu (o + c) (by omega)]; exact hU c k hd
theorem Inv_keep {N : Nat} {u m u2 m2 : St} (h : Inv N u m) (hk : Kp u u2) (hm : Km m m2) : Inv N u2 m2 := by
  obtain ⟨t, hU, hM, hT, hP, hI, hd, hr⟩ := h
  refine ⟨t, UT_kp hU (Or.inl rfl) hk, MT_km hM hm, hT, ?_, IM_keep hI (hk 17 (by omega)) (fun c hc => hk c (by omega)) (hm.1 19 (by omega)) (hm.1 20 (by omega)), by rw [hm.2.2]; exact hd, by rw [hm.2.1 22 (by omega)]; exact hr⟩
  unfold PD at hP ⊢
  rw [hk 18 (by omega), hk 19 (by omega), hm.2.1 20 (by omega), hm.1 12 (by omega)]
  exact hP
