theorem NB.same {u U : State} (he : u.vm = U.vm) (h : NB u) : NB U := by
  obtain ⟨h0, h1, h2, h3, h4, h5, h6, h7, h8, h9, h10, h11, h12, h13⟩ := h
  exact ⟨va_Nw.same rfl he h0, va_Nw.same rfl he h1, va_Nw.same rfl he h2, va_Nw.same rfl he h3, va_Nw.same rfl he h4, va_Nw.same rfl he h5, va_Nw.same rfl he h6, va_Nw.same rfl he h7, va_Nw.same rfl he h8, va_Nw.same rfl he h9, va_Nw.same rfl he h10, va_Nw.same rfl he h11, va_Nw.same rfl he h12, va_Nw.same rfl he h13⟩
/-! ===== states and worlds ===== -/
abbrev St : Type := (Nat → Nat → Int32) × (Nat → Nat → Int64)
def sI (u : St) (c k : Nat) (v : Int32) : St := (fun d => if d = c then upd (u.1 c) k v else u.1 d, u.2)
def sL (u : St) (c k : Nat) (v : Int64) : St := (u.1, fun d => if d = c then vp_updL (u.2 c) k v else u.2 d)
def sA (u : St) (c : Nat) (f : Nat → Int32) : St := (fun d => if d = c then f else u.1 d, u.2)
def sB (u : St) (c : Nat) (f : Nat → Int64) : St := (u.1, fun d => if d = c then f else u.2 d)
abbrev ix (i : Int32) : Nat := i.toNatClampNeg
abbrev WE : Type := (Nat → Int32) → (Nat → Int64) → Nat → va_E
def wX (N : Nat) (a : Nat → Nat) (E : WE) (u : St) : va_W := (List.range N).map (fun c => (a c, E (u.1 c) (u.2 c) c))
theorem wX_at {N : Nat} {a : Nat → Nat} {E : WE} {u : St} {c : Nat} (h : c < N) {q : va_E} (he : E (u.1 c) (u.2 c) c = q) : (wX N a E u)[c]? = some (a c, q) := by
  subst he
  simp [wX, h]
theorem wX_inv {N : Nat} {a : Nat → Nat} {E : WE} {u : St} {k : Nat} {q : Nat × va_E} (h : (wX N a E u)[k]? = some q) : k < N ∧ q.1 = a k := by
  have hk : k < N := by
    rcases Nat.lt_or_ge k N with h1 | h1
    · exact h1
    · rw [List.getElem?_eq_none (by simp [wX]; omega)] at h; cases h
  rw [wX_at hk rfl] at h
  exact ⟨hk, by cases h; rfl⟩
theorem wX_set {N : Nat} {a : Nat → Nat} {E : WE} {u u' : St} {c : Nat} {q : va_E} (hc : c < N) (h1 : ∀ d, d ≠ c → u'.1 d = u.1 d) (h2 : ∀ d, d ≠ c → u'.2 d = u.2 d) (he : E (u'.1 c) (u'.2 c) c = q) : (wX N a E u).set c (a c, q) = wX N a E u' := by
  subst he
  apply List.ext_getElem?
  intro i
  by_cases hi : i < N
  · by_cases hic : c = i
    · subst hic
      simp [wX, hi]
    · rw [List.getElem?_set_ne hic, wX_at hi rfl, wX_at hi rfl, h1 i (Ne.symm hic), h2 i (Ne.symm hic)]
  · rw [List.getElem?_eq_none (by simp [wX]; omega), List.getElem?_eq_none (by simp [wX]; omega)]
/-- what a method on a world may change -/
def AB (N : Nat) (a : Nat → Nat) (sz : Nat) : Nat → Prop := fun q => (∃ c, c < N ∧ q = a c) ∨ sz ≤ q
theorem AB_D {N : Nat} {a : Nat → Nat} {E : WE} {u : St} {A : Nat → Prop} {sz : Nat} (h : va_D A (wX N a E u)) : va_D (AB N a sz) (wX N a E u) :=
  ⟨h.1, fun k q hk => Or.inl ⟨k, (wX_inv hk).1, (wX_inv hk).2⟩⟩
theorem AB_mono {N : Nat} {a : Nat → Nat} {s1 s2 : Nat} (h : s1 ≤ s2) : ∀ q, AB N a s2 q → AB N a s1 q := fun _ hq => hq.elim Or.inl (fun h2 => Or.inr (Nat.le_trans h h2))
def Hh (D : va_G) (A : Nat → Prop) (w : va_W) (H0 H : Heap) (locs : List Loc) : Prop := va_P D vwCl w H ∧ va_D A w ∧ va_S A H0 H locs
def PB (D : va_G) (tys : List (ClassId × FieldType)) (w : va_W) (sz : Nat) (U : State) : Prop := U.heap.size = sz ∧ va_P D vwCl w U.heap ∧ va_K D vwCl tys U ∧ va_D (fun _ => True) w ∧ NB U
abbrev rmOf (fr lo : Nat) : Room := { frames := fr, cells := 0, slots := 0, locals := lo }
def Bk (D : va_G) (N : Nat) (a : Nat → Nat) (E : WE) (sz : Nat) (v : St) (t : State) : Prop := va_P D vwCl (wX N a E v) t.heap ∧ va_D (AB N a sz) (wX N a E v)
/-! ===== contracts: int, long, void ===== -/
def Ci (l : Launch) (y : MethodName) (cc : ByteArray) (maxL : Nat) (ret : Option FieldType) (fr lo : Nat) (D : va_G) (tys : List (ClassId × FieldType)) (N : Nat) (a : Nat → Nat) (E : WE) (av : List Value) (u : St) (r : Int32) (u2 : St) : Prop := ∀ sz : Nat, Met l y (Cond.code y cc maxL ret :: Gd) (rmOf fr lo) (va_Pc av (PB D tys (wX N a E u) sz)) (va_Qi (fun (r1 : Int32) (v : St) => r1 = r ∧ v = u2) (Bk D N a E sz) (AB N a sz)) 0 0 (AB N a sz)
def Cl (l : Launch) (y : MethodName) (cc : ByteArray) (maxL : Nat) (ret : Option FieldType) (fr lo : Nat) (D : va_G) (tys : List (ClassId × FieldType)) (N : Nat) (a : Nat → Nat) (E : WE) (av : List Value) (u : St) (r : Int64) (u2 : St) : Prop := ∀ sz : Nat, Met l y (Cond.code y cc maxL ret :: Gd) (rmOf fr lo) (va_Pc av (PB D tys (wX N a E u) sz)) (va_Ql (fun (r1 : Int64) (v : St) => r1 = r ∧ v = u2) (Bk D N a E sz) (AB N a sz)) 0 0 (AB N a sz)
def Cv (l : Launch) (y : MethodName) (cc : ByteArray) (maxL : Nat) (ret : Option FieldType) (fr lo : Nat) (D : va_G) (tys : List (ClassId × FieldType)) (N : Nat) (a : Nat → Nat) (E : WE) (av : List Value) (u : St) (u2 : St) : Prop := ∀ sz : Nat, Met l y (Cond.code y cc maxL ret :: Gd) (rmOf fr lo) (va_Pc av (PB D tys (wX N a E u) sz)) (va_Qv (fun (v : St) => v = u2) (Bk D N a E sz) (AB N a sz)) 0 0 (AB N a sz)
theorem PB_blind {D : va_G} {tys : List (ClassId × FieldType)} {w : va_W} {sz : Nat} {av : List Value} : FrameBlind (va_Pc av (PB D tys w sz)) := by
  intro a U g mk q
  obtain ⟨q0, q1, qP, qK, qD, qN⟩ := q
  exact ⟨q0, q1, qP, va_K.moved (u := U) (U := U.calling g mk a) (Vm.Alike.refl U.vm) qK, qD, NB.same (u := U) (U := U.calling g mk a) rfl qN⟩
theorem gdGood {ws : List Cond} (h : ∀ w ∈ ws, w ∈ Gd) : GoodIn Gd ws := fun w hw => ⟨h w hw, good_of_word (List.mem_filter.mp (h w hw)).2⟩
theorem gdV {own : String} {idx : Nat} {C : String} {y : MethodName} {c0 : Cond} (h1 : Cond.methodLink own idx y ∈ Gd) (h2 : Cond.instanceMethod y ∈ Gd) (h3 : Cond.selects C y y ∈ Gd) (h4 : Cond.initialized C ∈ Gd) (h5 : c0 ∈ Gd) : GoodIn Gd (wsV own idx C y (c0 :: Gd)) := by
  refine gdGood fun w hw => ?_
  simp only [wsV, List.cons_append, List.nil_append, List.mem_cons] at hw
  rcases hw with rfl | rfl | rfl | rfl | rfl | hw
  · exact h1
  · exact h2
  · exact h3
  · exact h4
  · exact h5
  · exact hw
theorem gdS {own : String} {idx : Nat} {y : MethodName} {c0 : Cond} (h1 : Cond.methodLink own idx y ∈ Gd) (h2 : Cond.static y ∈ Gd) (h3 : Cond.initialized y.cls ∈ Gd) (h5 : c0 ∈ Gd) : GoodIn Gd (va_wsS own idx y (c0 :: Gd)) := by
  refine gdGood fun w hw => ?_
  simp only [va_wsS, List.cons_append, List.nil_append, List.mem_cons] at hw
  rcases hw with rfl | rfl | rfl | rfl | hw
  · exact h1
  · exact h2
  · exact h3
  · exact h5
  · exact hw
theorem gdC {c0 : Cond} (h5 : c0 ∈ Gd) : GoodIn Gd (c0 :: Gd) := gdGood fun w hw => (List.mem_cons.mp hw).elim (fun e => e ▸ h5) id
/-! ===== pure combinators: what a walk takes apart ===== -/
def ck {R : Type} (c : Prop) [Decidable c] (x : Option R) : Option R := if c then x else none
theorem ck_e {R : Type} {c : Prop} [Decidable c] {x : Option R} {r : R} (h : ck c x = some r) : c ∧ x = some r := by
  unfold ck at h
  split at h
  · exact ⟨‹_›, h⟩
  · cases h
def cki {R : Type} (i : Int32) (n : Nat) (x : Option R) : Option R := if ¬ (i < 0 ∨ n ≤ i.toNatClampNeg) then x else none
theorem cki_e {R : Type} {i : Int32} {n : Nat} {x : Option R} {r : R} (h : cki i n x = some r) : vp_in i n ∧ x = some r := by
  unfold cki at h
  split at h
  · exact ⟨‹_›, h⟩
  · cases h
theorem nz {v : Int32} (h : v = 0 ∨ v = 1) : narrow .boolean (.int v) = .int v := by
  rcases h with rfl | rfl <;> rfl
def bs {α R : Type} (x : α) (f : α → Option R) : Option R := f x
theorem bs_e {α R : Type} {x : α} {f : α → Option R} {r : R} (h : bs x f = some r) : ∃ y, y = x ∧ f y = some r := ⟨x, rfl, h⟩
def b1 {α R : Type} (x : Option α) (f : α → Option R) : Option R := match x with
  | none => none
  | some y => f y
theorem b1_e {α R : Type} {x : Option α} {f : α → Option R} {r : R} (h : b1 x f = some r) : ∃ y, x = some y ∧ f y = some r := by
  cases x with
  | none => cases h
  | some y => exact ⟨y, rfl, h⟩
def b2 {α β R : Type} (x : Option (α × β)) (f : α → β → Option R) : Option R := match x with
  | none => none
  | some (y, z) => f y z
theorem b2_e {α β R : Type} {x : Option (α × β)} {f : α → β → Option R} {r : R} (h : b2 x f = some r) : ∃ y z, x = some (y, z) ∧ f y z = some r := by
  cases x with
  | none => cases h
  | some q => exact ⟨q.1, q.2, rfl, h⟩
theorem if_t {R : Type} {c : Prop} [Decidable c] {x y : Option R} {r : R} (h : (if c then x else y) = some r) (hc : c) : x = some r := by rw [if_pos hc] at h; exact h
theorem if_f {R : Type} {c : Prop} [Decidable c] {x y : Option R} {r : R} (h : (if c then x else y) = some r) (hc : ¬ c) : y = some r := by rw [if_neg hc] at h; exact h
theorem so {α : Type} {x y : α} (h : some x = some y) : x = y := Option.some.inj h
theorem so1 {α β : Type} {x y : α} {z t : β} (h : some (x, z) = some (y, t)) : x = y := congrArg Prod.fst (Option.some.inj h)
theorem so2 {α β : Type} {x y : α} {z t : β} (h : some (x, z) = some (y, t)) : z = t := congrArg Prod.snd (Option.some.inj h)
def mxI (x y : Int32) : Int32 := if x < y then y else x
def mnI (x y : Int32) : Int32 := if y < x then y else x
def abI (x : Int32) : Int32 := if 0 ≤ x then x else 0 - x
def iusr (x y : Int32) : Int32 := (x.toUInt32 >>> (y.toUInt32 &&& Int32.toUInt32 31)).toInt32
def jq_0 {R : Type} (K : Option R) (T : (Option R) → Option R) : Option R := T K
theorem jq_0_e {R : Type} {K : Option R} {T : Option R → Option R} {r : R} (h : jq_0 K T = some r) : ∃ k, k = K ∧ T k = some r := ⟨K, rfl, h⟩
def jq_1 {α R : Type} (K : α → Option R) (T : (α → Option R) → Option R) : Option R := T K
theorem jq_1_e {α R : Type} {K : α → Option R} {T : (α → Option R) → Option R} {r : R} (h : jq_1 K T = some r) : ∃ k : α → Option R, (∀ x0, k x0 = K x0) ∧ T k = some r := ⟨K, fun _ => rfl, h⟩
def jq_2 {α β R : Type} (K : α → β → Option R) (T : (α → β → Option R) → Option R) : Option R := T K
theorem jq_2_e {α β R : Type} {K : α → β → Option R} {T : (α → β → Option R) → Option R} {r : R} (h : jq_2 K T = some r) : ∃ k : α → β → Option R, (∀ x0 x1, k x0 x1 = K x0 x1) ∧ T k = some r := ⟨K, fun _ _ => rfl, h⟩
def jq_3 {α β γ R : Type} (K : α → β → γ → Option R) (T : (α → β → γ → Option R) → Option R) : Option R := T K
theorem jq_3_e {α β γ R : Type} {K : α → β → γ → Option R} {T : (α → β → γ → Option R) → Option R} {r : R} (h : jq_3 K T = some r) : ∃ k : α → β → γ → Option R, (∀ x0 x1 x2, k x0 x1 x2 = K x0 x1 x2) ∧ T k = some r := ⟨K, fun _ _ _ => rfl, h⟩
def jq_4 {α β γ δ R : Type} (K : α → β → γ → δ → Option R) (T : (α → β → γ → δ → Option R) → Option R) : Option R := T K
theorem jq_4_e {α β γ δ R : Type} {K : α → β → γ → δ → Option R} {T : (α → β → γ → δ → Option R) → Option R} {r : R} (h : jq_4 K T = some r) : ∃ k : α → β → γ → δ → Option R, (∀ x0 x1 x2 x3, k x0 x1 x2 x3 = K x0 x1 x2 x3) ∧ T k = some r := ⟨K, fun _ _ _ _ => rfl, h⟩
def jq_5 {α β γ δ ε R : Type} (K : α → β → γ → δ → ε → Option R) (T : (α → β → γ → δ → ε → Option R) → Option R) : Option R := T K
theorem jq_5_e {α β γ δ ε R : Type} {K : α → β → γ → δ → ε → Option R} {T : (α → β → γ → δ → ε → Option R) → Option R} {r : R} (h : jq_5 K T = some r) : ∃ k : α → β → γ → δ → ε → Option R, (∀ x0 x1 x2 x3 x4, k x0 x1 x2 x3 x4 = K x0 x1 x2 x3 x4) ∧ T k = some r := ⟨K, fun _ _ _ _ _ => rfl, h⟩
def jq_6 {α β γ δ ε ζ R : Type} (K : α → β → γ → δ → ε → ζ → Option R) (T : (α → β → γ → δ → ε → ζ → Option R) → Option R) : Option R := T K
theorem jq_6_e {α β γ δ ε ζ R : Type} {K : α → β → γ → δ → ε → ζ → Option R} {T : (α → β → γ → δ → ε → ζ → Option R) → Option R} {r : R} (h : jq_6 K T = some r) : ∃ k : α → β → γ → δ → ε → ζ → Option R, (∀ x0 x1 x2 x3 x4 x5, k x0 x1 x2 x3 x4 x5 = K x0 x1 x2 x3 x4 x5) ∧ T k = some r := ⟨K, fun _ _ _ _ _ _ => rfl, h⟩
def lq_1 {α R : Type} (B : (α → Option R) → α → Option R) : Nat → α → Option R
  | 0 => fun _ => none
  | n + 1 => B (lq_1 B n)
theorem lq_1_e {α R : Type} {B : (α → Option R) → α → Option R} {r : R} {P : α → Prop} (h : ∀ (rec : α → Option R), (∀ x0, rec x0 = some r → P x0) → ∀ x0, B rec x0 = some r → P x0) : ∀ (n : Nat) (x0 : α), lq_1 B n x0 = some r → P x0 := by
  intro n
  induction n with
  | zero => intro x0 hh; cases hh
  | succ n ih => exact h _ ih
def lq_2 {α β R : Type} (B : (α → β → Option R) → α → β → Option R) : Nat → α → β → Option R
  | 0 => fun _ _ => none
  | n + 1 => B (lq_2 B n)
theorem lq_2_e {α β R : Type} {B : (α → β → Option R) → α → β → Option R} {r : R} {P : α → β → Prop} (h : ∀ (rec : α → β → Option R), (∀ x0 x1, rec x0 x1 = some r → P x0 x1) → ∀ x0 x1, B rec x0 x1 = some r → P x0 x1) : ∀ (n : Nat) (x0 : α) (x1 : β), lq_2 B n x0 x1 = some r → P x0 x1 := by
  intro n
  induction n with
  | zero => intro x0 x1 hh; cases hh
  | succ n ih => exact h _ ih
def lq_3 {α β γ R : Type} (B : (α → β → γ → Option R) → α → β → γ → Option R) : Nat → α → β → γ → Option R
  | 0 => fun _ _ _ => none
  | n + 1 => B (lq_3 B n)
theorem lq_3_e {α β γ R : Type} {B : (α → β → γ → Option R) → α → β → γ → Option R} {r : R} {P : α → β → γ → Prop} (h : ∀ (rec : α → β → γ → Option R), (∀ x0 x1 x2, rec x0 x1 x2 = some r → P x0 x1 x2) → ∀ x0 x1 x2, B rec x0 x1 x2 = some r → P x0 x1 x2) : ∀ (n : Nat) (x0 : α) (x1 : β) (x2 : γ), lq_3 B n x0 x1 x2 = some r → P x0 x1 x2 := by
  intro n
  induction n with
  | zero => intro x0 x1 x2 hh; cases hh
  | succ n ih => exact h _ ih
def lq_4 {α β γ δ R : Type} (B : (α → β → γ → δ → Option R) → α → β → γ → δ → Option R) : Nat → α → β → γ → δ → Option R
  | 0 => fun _ _ _ _ => none
  | n + 1 => B (lq_4 B n)
theorem lq_4_e {α β γ δ R : Type} {B : (α → β → γ → δ → Option R) → α → β → γ → δ → Option R} {r : R} {P : α → β → γ → δ → Prop} (h : ∀ (rec : α → β → γ → δ → Option R), (∀ x0 x1 x2 x3, rec x0 x1 x2 x3 = some r → P x0 x1 x2 x3) → ∀ x0 x1 x2 x3, B rec x0 x1 x2 x3 = some r → P x0 x1 x2 x3) : ∀ (n : Nat) (x0 : α) (x1 : β) (x2 : γ) (x3 : δ), lq_4 B n x0 x1 x2 x3 = some r → P x0 x1 x2 x3 := by
  intro n
  induction n with
  | zero => intro x0 x1 x2 x3 hh; cases hh
  | succ n ih => exact h _ ih
def lq_5 {α β γ δ ε R : Type} (B : (α → β → γ → δ → ε → Option R) → α → β → γ → δ → ε → Option R) : Nat → α → β → γ → δ → ε → Option R
  | 0 => fun _ _ _ _ _ => none
  | n + 1 => B (lq_5 B n)
theorem lq_5_e {α β γ δ ε R : Type} {B : (α → β → γ → δ → ε → Option R) → α → β → γ → δ → ε → Option R} {r : R} {P : α → β → γ → δ → ε → Prop} (h : ∀ (rec : α → β → γ → δ → ε → Option R), (∀ x0 x1 x2 x3 x4, rec x0 x1 x2 x3 x4 = some r → P x0 x1 x2 x3 x4) → ∀ x0 x1 x2 x3 x4, B rec x0 x1 x2 x3 x4 = some r → P x0 x1 x2 x3 x4) : ∀ (n : Nat) (x0 : α) (x1 : β) (x2 : γ) (x3 : δ) (x4 : ε), lq_5 B n x0 x1 x2 x3 x4 = some r → P x0 x1 x2 x3 x4 := by
  intro n
  induction n with
  | zero => intro x0 x1 x2 x3 x4 hh; cases hh
  | succ n ih => exact h _ ih
def lq_6 {α β γ δ ε ζ R : Type} (B : (α → β → γ → δ → ε → ζ → Option R) → α → β → γ → δ → ε → ζ → Option R) : Nat → α → β → γ → δ → ε → ζ → Option R
  | 0 => fun _ _ _ _ _ _ => none
  | n + 1 => B (lq_6 B n)
theorem lq_6_e {α β γ δ ε ζ R : Type} {B : (α → β → γ → δ → ε → ζ → Option R) → α → β → γ → δ → ε → ζ → Option R} {r : R} {P : α → β → γ → δ → ε → ζ → Prop} (h : ∀ (rec : α → β → γ → δ → ε → ζ → Option R), (∀ x0 x1 x2 x3 x4 x5, rec x0 x1 x2 x3 x4 x5 = some r → P x0 x1 x2 x3 x4 x5) → ∀ x0 x1 x2 x3 x4 x5, B rec x0 x1 x2 x3 x4 x5 = some r → P x0 x1 x2 x3 x4 x5) : ∀ (n : Nat) (x0 : α) (x1 : β) (x2 : γ) (x3 : δ) (x4 : ε) (x5 : ζ), lq_6 B n x0 x1 x2 x3 x4 x5 = some r → P x0 x1 x2 x3 x4 x5 := by
  intro n
  induction n with
  | zero => intro x0 x1 x2 x3 x4 x5 hh; cases hh
  | succ n ih => exact h _ ih
def FU : Nat := 100000
section BR
variable {p : Program} {l : Launch} {e : Env} {R : Room} {s : State} {m : MethodId} {args : Array Value} {below : List Frame} {meth : Method} {c : Code} {H H0 : Heap} {locs : List Loc} {cells slots : Nat} {Q : State → Prop} {pc : Nat} {ls : Array Slot} {rest : List Value} {A : Nat → Prop} {cc : ByteArray} {D : va_G} {tys : List (ClassId × FieldType)} {N : Nat} {a : Nat → Nat} {E : WE} {u : St} {own : String} {index : Nat}
theorem rGet (hx : p.tables.exec = Jvm.exec) (hb : c.code = cc) {C ref : String} {T : u_T} {M ci : Nat} (hts : ∀ w ∈ Gd, w.before args s = true) (hin : ∀ w ∈ u_ws C T M, w ∈ Gd) (hown : s.vm.findClass own = some m.cls) (hK : va_K D vwCl tys s) (h : Hh D A (wX N a E u) H0 H locs) (q : Nat) (hq : q < N) {fs : List Value} (he : E (u.1 q) (u.2 q) q = .inr (ci, fs)) (hc : vwCl[ci]? = some (C, T, M)) (k : Nat) (hk : k < M) (hlink : Cond.fieldLink own index ref (T k).2.1 (T k).2.2.1 ∈ Gd) (hsame : ∀ x, s.fieldFound? (T k).1 (T k).2.1 (T k).2.2.1 = some x → s.fieldFound? ref (T k).2.1 (T k).2.2.1 = some x) {v : Value} (hv : fs[k]? = some v) (hdg : decode cc pc = .ok (.getfield index, 3)) (kk : W p l e R s m args below meth c H locs cells slots Q (F0 m (pc + 3) ls (v :: rest))) : W p l e R s m args below meth c H locs cells slots Q (F0 m pc ls (.ref (a q) :: rest)) :=
  va_get (ref := ref) hx hb hts hin hown hK h.1 q (wX_at hq he) hc k hk (hts _ hlink) hsame hv hdg kk
theorem rPut (hx : p.tables.exec = Jvm.exec) (hb : c.code = cc) {C ref : String} {T : u_T} {M ci : Nat} (hts : ∀ w ∈ Gd, w.before args s = true) (hin : ∀ w ∈ u_ws C T M, w ∈ Gd) (ty0 : Nat → FieldType) (hty : ∀ k, k < M → parseFieldDescriptor (T k).2.2.1 = some (ty0 k)) (hnm : ∀ a, a < M → ∀ b, b < M → a ≠ b → (T a).2.1 ≠ (T b).2.1) (hown : s.vm.findClass own = some m.cls) (hK : va_K D vwCl tys s) (h : Hh D A (wX N a E u) H0 H locs) (q : Nat) (hq : q < N) {fs : List Value} (he : E (u.1 q) (u.2 q) q = .inr (ci, fs)) (hc : vwCl[ci]? = some (C, T, M)) (k : Nat) (hk : k < M) (hlink : Cond.fieldLink own index ref (T k).2.1 (T k).2.2.1 ∈ Gd) (hsame : ∀ x, s.fieldFound? (T k).1 (T k).2.1 (T k).2.2.1 = some x → s.fieldFound? ref (T k).2.1 (T k).2.2.1 = some x) (hfin : (T k).2.2.2 = false) {ty : FieldType} {v : Value} (hd : parseFieldDescriptor (T k).2.2.1 = some ty) (hn : narrow ty v = v) (hfit : fits ty v = true) (hl : k < fs.length) {u2 : St} (h1 : ∀ d, d ≠ q → u2.1 d = u.1 d) (h2 : ∀ d, d ≠ q → u2.2 d = u.2 d) (he2 : E (u2.1 q) (u2.2 q) q = .inr (ci, fs.set k v)) (hdg : decode cc pc = .ok (.putfield index, 3)) (kk : ∀ (H1 : Heap) (locs1 : List Loc), Hh D A (wX N a E u2) H0 H1 locs1 → W p l e R s m args below meth c H1 locs1 cells slots Q (F0 m (pc + 3) ls rest)) : W p l e R s m args below meth c H locs cells slots Q (F0 m pc ls (v :: .ref (a q) :: rest)) := by
  refine va_put (ref := ref) hx hb hts hin ty0 hty hnm hown hK h.1 h.2.1 h.2.2 q (wX_at hq he) hc k hk (hts _ hlink) hsame hfin hd hn hfit hl hdg (fun H1 locs1 hP hD hS => ?_)
  rw [wX_set hq h1 h2 he2] at hP hD
  exact kk H1 locs1 ⟨hP, hD, hS⟩
theorem sI_o {u : St} {c k d : Nat} {v : Int32} (h : d ≠ c) : (sI u c k v).1 d = u.1 d := by simp [sI, h]
theorem sI_s {u : St} {c k : Nat} {v : Int32} : (sI u c k v).1 c = upd (u.1 c) k v := by simp [sI]
theorem sL_o {u : St} {c k d : Nat} {v : Int64} (h : d ≠ c) : (sL u c k v).2 d = u.2 d := by simp [sL, h]
theorem sL_s {u : St} {c k : Nat} {v : Int64} : (sL u c k v).2 c = vp_updL (u.2 c) k v := by simp [sL]
theorem sA_o {u : St} {c d : Nat} {f : Nat → Int32} (h : d ≠ c) : (sA u c f).1 d = u.1 d := by simp [sA, h]
theorem sA_s {u : St} {c : Nat} {f : Nat → Int32} : (sA u c f).1 c = f := by simp [sA]
theorem sB_o {u : St} {c d : Nat} {f : Nat → Int64} (h : d ≠ c) : (sB u c f).2 d = u.2 d := by simp [sB, h]
theorem sB_s {u : St} {c : Nat} {f : Nat → Int64} : (sB u c f).2 c = f := by simp [sB]
theorem rLdI (hx : p.tables.exec = Jvm.exec) (hb : c.code = cc) (hK : va_K D vwCl tys s) (h : Hh D A (wX N a E u) H0 H locs) (q : Nat) (hq : q < N) (t0 : Nat) {cA : ClassId} {n : Nat} (he : E (u.1 q) (u.2 q) q = .inl (cA, n, .inl (u.1 q))) (ht : tys[t0]? = some (cA, .int)) {i : Int32} (hin : vp_in i n) (hdg : decode cc pc = .ok (.iaload, 1)) (kk : W p l e R s m args below meth c H locs cells slots Q (F0 m (pc + 1) ls (.int (u.1 q (ix i)) :: rest))) : W p l e R s m args below meth c H locs cells slots Q (F0 m pc ls (.int i :: .ref (a q) :: rest)) :=
  va_iald hx hb hK h.1 q t0 (wX_at hq he) ht hin hdg kk
theorem rStI (hx : p.tables.exec = Jvm.exec) (hb : c.code = cc) (hK : va_K D vwCl tys s) (h : Hh D A (wX N a E u) H0 H locs) (q : Nat) (hq : q < N) (t0 : Nat) {cA : ClassId} {n : Nat} (he : ∀ f : Nat → Int32, E f (u.2 q) q = .inl (cA, n, .inl f)) (ht : tys[t0]? = some (cA, .int)) {i : Int32} {x : Int32} (hin : vp_in i n) (hdg : decode cc pc = .ok (.iastore, 1)) (kk : ∀ (H1 : Heap) (locs1 : List Loc), Hh D A (wX N a E (sI u q (ix i) x)) H0 H1 locs1 → W p l e R s m args below meth c H1 locs1 cells slots Q (F0 m (pc + 1) ls rest)) : W p l e R s m args below meth c H locs cells slots Q (F0 m pc ls (.int x :: .int i :: .ref (a q) :: rest)) := by
  refine va_iast hx hb hK h.1 h.2.1 h.2.2 q t0 (wX_at hq (he _)) ht hin hdg (fun H1 locs1 hP hD hS => ?_)
  rw [wX_set (u := u) (u' := sI u q (ix i) x) hq (fun d hd => sI_o hd) (fun d hd => rfl) (by rw [sI_s]; exact he _)] at hP hD
  exact kk H1 locs1 ⟨hP, hD, hS⟩
theorem rLdJ (hx : p.tables.exec = Jvm.exec) (hb : c.code = cc) (hK : va_K D vwCl tys s) (h : Hh D A (wX N a E u) H0 H locs) (q : Nat) (hq : q < N) (t0 : Nat) {cA : ClassId} {n : Nat} (he : E (u.1 q) (u.2 q) q = .inl (cA, n, .inr (.inl (u.2 q)))) (ht : tys[t0]? = some (cA, .long)) {i : Int32} (hin : vp_in i n) (hdg : decode cc pc = .ok (.laload, 1)) (kk : W p l e R s m args below meth c H locs cells slots Q (F0 m (pc + 1) ls (.long (u.2 q (ix i)) :: rest))) : W p l e R s m args below meth c H locs cells slots Q (F0 m pc ls (.int i :: .ref (a q) :: rest)) :=
  va_lald hx hb hK h.1 q t0 (wX_at hq he) ht hin hdg kk
theorem rStJ (hx : p.tables.exec = Jvm.exec) (hb : c.code = cc) (hK : va_K D vwCl tys s) (h : Hh D A (wX N a E u) H0 H locs) (q : Nat) (hq : q < N) (t0 : Nat) {cA : ClassId} {n : Nat} (he : ∀ f : Nat → Int64, E (u.1 q) f q = .inl (cA, n, .inr (.inl f))) (ht : tys[t0]? = some (cA, .long)) {i : Int32} {x : Int64} (hin : vp_in i n) (hdg : decode cc pc = .ok (.lastore, 1)) (kk : ∀ (H1 : Heap) (locs1 : List Loc), Hh D A (wX N a E (sL u q (ix i) x)) H0 H1 locs1 → W p l e R s m args below meth c H1 locs1 cells slots Q (F0 m (pc + 1) ls rest)) : W p l e R s m args below meth c H locs cells slots Q (F0 m pc ls (.long x :: .int i :: .ref (a q) :: rest)) := by
  refine va_last hx hb hK h.1 h.2.1 h.2.2 q t0 (wX_at hq (he _)) ht hin hdg (fun H1 locs1 hP hD hS => ?_)
  rw [wX_set (u := u) (u' := sL u q (ix i) x) hq (fun d hd => rfl) (fun d hd => sL_o hd) (by rw [sL_s]; exact he _)] at hP hD
  exact kk H1 locs1 ⟨hP, hD, hS⟩
theorem rLdZ (hx : p.tables.exec = Jvm.exec) (hb : c.code = cc) (hK : va_K D vwCl tys s) (h : Hh D A (wX N a E u) H0 H locs) (q : Nat) (hq : q < N) (t0 : Nat) {cA : ClassId} {n : Nat} (he : E (u.1 q) (u.2 q) q = .inl (cA, n, .inl (u.1 q))) (ht : tys[t0]? = some (cA, .boolean)) {i : Int32} (hin : vp_in i n) (hdg : decode cc pc = .ok (.baload, 1)) (kk : W p l e R s m args below meth c H locs cells slots Q (F0 m (pc + 1) ls (.int (u.1 q (ix i)) :: rest))) : W p l e R s m args below meth c H locs cells slots Q (F0 m pc ls (.int i :: .ref (a q) :: rest)) :=
  va_zald hx hb hK h.1 q t0 (wX_at hq he) ht hin hdg kk
theorem rStZ (hx : p.tables.exec = Jvm.exec) (hb : c.code = cc) (hK : va_K D vwCl tys s) (h : Hh D A (wX N a E u) H0 H locs) (q : Nat) (hq : q < N) (t0 : Nat) {cA : ClassId} {n : Nat} (he : ∀ f : Nat → Int32, E f (u.2 q) q = .inl (cA, n, .inl f)) (ht : tys[t0]? = some (cA, .boolean)) {i : Int32} {x : Int32} (hin : vp_in i n) (hdg : decode cc pc = .ok (.bastore, 1)) (kk : ∀ (H1 : Heap) (locs1 : List Loc), Hh D A (wX N a E (sI u q (ix i) (vp_nar .boolean x))) H0 H1 locs1 → W p l e R s m args below meth c H1 locs1 cells slots Q (F0 m (pc + 1) ls rest)) : W p l e R s m args below meth c H locs cells slots Q (F0 m pc ls (.int x :: .int i :: .ref (a q) :: rest)) := by
  refine va_zast hx hb hK h.1 h.2.1 h.2.2 q t0 (wX_at hq (he _)) ht hin hdg (fun H1 locs1 hP hD hS => ?_)
  rw [wX_set (u := u) (u' := sI u q (ix i) (vp_nar .boolean x)) hq (fun d hd => sI_o hd) (fun d hd => rfl) (by rw [sI_s]; exact he _)] at hP hD
  exact kk H1 locs1 ⟨hP, hD, hS⟩
theorem rTop {x y : Int32} (h : y = x) (k : W p l e R s m args below meth c H locs cells slots Q (F0 m pc ls (.int y :: rest))) : W p l e R s m args below meth c H locs cells slots Q (F0 m pc ls (.int x :: rest)) := h ▸ k
theorem rTopL {x y : Int64} (h : y = x) (k : W p l e R s m args below meth c H locs cells slots Q (F0 m pc ls (.long y :: rest))) : W p l e R s m args below meth c H locs cells slots Q (F0 m pc ls (.long x :: rest)) := h ▸ k
theorem rNam {u1 u2 : St} {w2 : St → va_W} (h : u1 = u2) (k : Hh D A (w2 u2) H0 H locs) : Hh D A (w2 u1) H0 H locs := h ▸ k
theorem rMmax (hx : p.tables.exec = Jvm.exec) (hb : c.code = cc) (hml : c.maxLocals = ls.size) (hown : s.vm.findClass own = some m.cls) (hts : ∀ w ∈ Gd, w.before args s = true) (hlink : Cond.methodLink own index Lib.Math.max.name ∈ Gd) (hF : 1 ≤ R.frames) (hL : 21 ≤ R.locals) (hr : (rest.map fun v => v.category).sum ≤ 8) (hcs : cells ≤ R.cells ∧ slots ≤ R.slots) {x y : Int32} (hdg : decode cc pc = .ok (.invokestatic index, 3)) (kk : W p l e R s m args below meth c H locs cells slots Q (F0 m (pc + 3) ls (.int (mxI x y) :: rest))) : W p l e R s m args below meth c H locs cells slots Q (F0 m pc ls (.int y :: .int x :: rest)) :=
  va_mmax hx hb hml hown (hts _ hlink) (hts _ sm_M_max) (hts _ in_J9) (hts _ co_M_max) hF (by omega) hcs.1 hcs.2 hdg kk
theorem rMmin (hx : p.tables.exec = Jvm.exec) (hb : c.code = cc) (hml : c.maxLocals = ls.size) (hown : s.vm.findClass own = some m.cls) (hts : ∀ w ∈ Gd, w.before args s = true) (hlink : Cond.methodLink own index Lib.Math.min.name ∈ Gd) (hF : 1 ≤ R.frames) (hL : 21 ≤ R.locals) (hr : (rest.map fun v => v.category).sum ≤ 8) (hcs : cells ≤ R.cells ∧ slots ≤ R.slots) {x y : Int32} (hdg : decode cc pc = .ok (.invokestatic index, 3)) (kk : W p l e R s m args below meth c H locs cells slots Q (F0 m (pc + 3) ls (.int (mnI x y) :: rest))) : W p l e R s m args below meth c H locs cells slots Q (F0 m pc ls (.int y :: .int x :: rest)) :=
  va_mmin hx hb hml hown (hts _ hlink) (hts _ sm_M_min) (hts _ in_J9) (hts _ co_M_min) hF (by omega) hcs.1 hcs.2 hdg kk
theorem rMabs (hx : p.tables.exec = Jvm.exec) (hb : c.code = cc) (hml : c.maxLocals = ls.size) (hown : s.vm.findClass own = some m.cls) (hts : ∀ w ∈ Gd, w.before args s = true) (hlink : Cond.methodLink own index Lib.Math.abs.name ∈ Gd) (hF : 1 ≤ R.frames) (hL : 21 ≤ R.locals) (hr : (rest.map fun v => v.category).sum ≤ 8) (hcs : cells ≤ R.cells ∧ slots ≤ R.slots) {x : Int32} (hdg : decode cc pc = .ok (.invokestatic index, 3)) (kk : W p l e R s m args below meth c H locs cells slots Q (F0 m (pc + 3) ls (.int (abI x) :: rest))) : W p l e R s m args below meth c H locs cells slots Q (F0 m pc ls (.int x :: rest)) :=
  va_mabs hx hb hml hown (hts _ hlink) (hts _ sm_M_abs) (hts _ in_J9) (hts _ co_M_abs) hF (by omega) hcs.1 hcs.2 hdg kk
theorem rCpyI (hx : p.tables.exec = Jvm.exec) (hb : c.code = cc) (hml : c.maxLocals = ls.size) (hown : s.vm.findClass own = some m.cls) (hts : ∀ w ∈ Gd, w.before args s = true) (hlink : Cond.methodLink own index arraycopyName ∈ Gd) (hK : va_K D vwCl tys s) (h : Hh D A (wX N a E u) H0 H locs) (q0 q1 : Nat) (hq0 : q0 < N) (hq1 : q1 < N) (t0 : Nat) {cA : ClassId} {n0 n1 : Nat} (he0 : ∀ f : Nat → Int32, E f (u.2 q0) q0 = .inl (cA, n0, .inl f)) (he1 : ∀ f : Nat → Int32, E f (u.2 q1) q1 = .inl (cA, n1, .inl f)) (ht : tys[t0]? = some (cA, .int)) {n : Int32} (h3 : ¬ n < 0) (h4 : n.toNatClampNeg ≤ n0) (h5 : n.toNatClampNeg ≤ n1) (hF : 1 ≤ R.frames) (hL : 40 ≤ R.locals) (hr : (rest.map fun v => v.category).sum ≤ 8) (hdg : decode cc pc = .ok (.invokestatic index, 3)) (kk : ∀ (H1 : Heap) (locs1 : List Loc), Hh D A (wX N a E (sA u q1 (va_cpy (u.1 q0) (u.1 q1) 0 0 n.toNatClampNeg))) H0 H1 locs1 → W p l e R s m args below meth c H1 locs1 cells slots Q (F0 m (pc + 3) ls rest)) : W p l e R s m args below meth c H locs cells slots Q (F0 m pc ls (.int n :: .int 0 :: .ref (a q1) :: .int 0 :: .ref (a q0) :: rest)) := by
  have z0 : Int32.toNatClampNeg 0 = 0 := rfl
  have g4 : Int32.toNatClampNeg 0 + n.toNatClampNeg ≤ n0 := by rw [z0, Nat.zero_add]; exact h4
  have g5 : Int32.toNatClampNeg 0 + n.toNatClampNeg ≤ n1 := by rw [z0, Nat.zero_add]; exact h5
  have g6 : nativeFrameWords "java/lang/System" "arraycopy" 5 + 11 ≤ 32 := by decide +kernel
  have g7 : (rest.map fun v => v.category).sum + (nativeFrameWords "java/lang/System" "arraycopy" 5 + 11) ≤ R.locals := by omega
  refine va_copyi hx hb hml hown (hts _ hlink) (hts _ na_S_arraycopy) (hts _ sm_S_arraycopy) (hts _ in_J10) hK h.1 h.2.1 h.2.2 q0 q1 t0 t0 (wX_at hq0 (he0 _)) (wX_at hq1 (he1 _)) ht ht rfl (by decide) (by decide) h3 g4 g5 (fun i hi => rfl) hF g7 hdg (fun H1 locs1 hP hD hS => ?_)
  rw [wX_set (u := u) (u' := sA u q1 (va_cpy (u.1 q0) (u.1 q1) 0 0 n.toNatClampNeg)) hq1 (fun d hd => sA_o hd) (fun d hd => rfl) (by rw [sA_s]; exact he1 _)] at hP hD
  exact kk H1 locs1 ⟨hP, hD, hS⟩
theorem rCpyJ (hx : p.tables.exec = Jvm.exec) (hb : c.code = cc) (hml : c.maxLocals = ls.size) (hown : s.vm.findClass own = some m.cls) (hts : ∀ w ∈ Gd, w.before args s = true) (hlink : Cond.methodLink own index arraycopyName ∈ Gd) (hK : va_K D vwCl tys s) (h : Hh D A (wX N a E u) H0 H locs) (q0 q1 : Nat) (hq0 : q0 < N) (hq1 : q1 < N) (t0 : Nat) {cA : ClassId} {n0 n1 : Nat} (he0 : ∀ f : Nat → Int64, E (u.1 q0) f q0 = .inl (cA, n0, .inr (.inl f))) (he1 : ∀ f : Nat → Int64, E (u.1 q1) f q1 = .inl (cA, n1, .inr (.inl f))) (ht : tys[t0]? = some (cA, .long)) {n : Int32} (h3 : ¬ n < 0) (h4 : n.toNatClampNeg ≤ n0) (h5 : n.toNatClampNeg ≤ n1) (hF : 1 ≤ R.frames) (hL : 40 ≤ R.locals) (hr : (rest.map fun v => v.category).sum ≤ 8) (hdg : decode cc pc = .ok (.invokestatic index, 3)) (kk : ∀ (H1 : Heap) (locs1 : List Loc), Hh D A (wX N a E (sB u q1 (va_cpy (u.2 q0) (u.2 q1) 0 0 n.toNatClampNeg))) H0 H1 locs1 → W p l e R s m args below meth c H1 locs1 cells slots Q (F0 m (pc + 3) ls rest)) : W p l e R s m args below meth c H locs cells slots Q (F0 m pc ls (.int n :: .int 0 :: .ref (a q1) :: .int 0 :: .ref (a q0) :: rest)) := by
  have z0 : Int32.toNatClampNeg 0 = 0 := rfl
  have g4 : Int32.toNatClampNeg 0 + n.toNatClampNeg ≤ n0 := by rw [z0, Nat.zero_add]; exact h4
  have g5 : Int32.toNatClampNeg 0 + n.toNatClampNeg ≤ n1 := by rw [z0, Nat.zero_add]; exact h5
  have g6 : nativeFrameWords "java/lang/System" "arraycopy" 5 + 11 ≤ 32 := by decide +kernel
  have g7 : (rest.map fun v => v.category).sum + (nativeFrameWords "java/lang/System" "arraycopy" 5 + 11) ≤ R.locals := by omega
  refine va_copyl hx hb hml hown (hts _ hlink) (hts _ na_S_arraycopy) (hts _ sm_S_arraycopy) (hts _ in_J10) hK h.1 h.2.1 h.2.2 q0 q1 t0 t0 (wX_at hq0 (he0 _)) (wX_at hq1 (he1 _)) ht ht rfl (by decide) (by decide) h3 g4 g5 (fun i hi => rfl) hF g7 hdg (fun H1 locs1 hP hD hS => ?_)
  rw [wX_set (u := u) (u' := sB u q1 (va_cpy (u.2 q0) (u.2 q1) 0 0 n.toNatClampNeg)) hq1 (fun d hd => rfl) (fun d hd => sB_o hd) (by rw [sB_s]; exact he1 _)] at hP hD
  exact kk H1 locs1 ⟨hP, hD, hS⟩
theorem rSw (hx : p.tables.exec = Jvm.exec) (hb : c.code = cc) {dflt lo hi : Int} {offs : Array Int} {len : Nat} {x : Int32} (tgt : Nat) (hdg : decode cc pc = .ok (.tableswitch dflt lo hi offs, len)) (v : Int32) (hv : x = v) (h1 : ¬ v.toInt < lo) (h2 : ¬ hi < v.toInt) {off : Int} (ho : offs[(v.toInt - lo).toNat]? = some off) (ht : (pc : Int) + off = (tgt : Int)) (k : W p l e R s m args below meth c H locs cells slots Q (F0 m tgt ls rest)) : W p l e R s m args below meth c H locs cells slots Q (F0 m pc ls (.int x :: rest)) := by
  subst hv
  exact lv_tableIn hx hb hdg h1 h2 ho ht k
end BR
theorem tbOut3 {x : Int32} (h0 : ¬ x = 0) (h1 : ¬ x = 1) (h2 : ¬ x = 2) : x.toInt < 0 ∨ 2 < x.toInt := by
  have g0 : ¬ x.toInt = 0 := fun h => h0 (Int32.toInt_inj.mp (by rw [h]; rfl))
  have g1 : ¬ x.toInt = 1 := fun h => h1 (Int32.toInt_inj.mp (by rw [h]; rfl))
  have g2 : ¬ x.toInt = 2 := fun h => h2 (Int32.toInt_inj.mp (by rw [h]; rfl))
  omega
theorem tbOut4 {x : Int32} (h0 : ¬ x = 0) (h1 : ¬ x = 1) (h2 : ¬ x = 2) (h3 : ¬ x = 3) : x.toInt < 0 ∨ 3 < x.toInt := by
  have g0 : ¬ x.toInt = 0 := fun h => h0 (Int32.toInt_inj.mp (by rw [h]; rfl))
  have g1 : ¬ x.toInt = 1 := fun h => h1 (Int32.toInt_inj.mp (by rw [h]; rfl))
  have g2 : ¬ x.toInt = 2 := fun h => h2 (Int32.toInt_inj.mp (by rw [h]; rfl))
  have g3 : ¬ x.toInt = 3 := fun h => h3 (Int32.toInt_inj.mp (by rw [h]; rfl))
  omega
theorem tbOut8 {x : Int32} (h0 : ¬ x = 0) (h1 : ¬ x = 1) (h2 : ¬ x = 2) (h3 : ¬ x = 3) (h4 : ¬ x = 4) (h5 : ¬ x = 5) (h6 : ¬ x = 6) (h7 : ¬ x = 7) : x.toInt < 0 ∨ 7 < x.toInt := by
  have g0 : ¬ x.toInt = 0 := fun h => h0 (Int32.toInt_inj.mp (by rw [h]; rfl))
  have g1 : ¬ x.toInt = 1 := fun h => h1 (Int32.toInt_inj.mp (by rw [h]; rfl))
  have g2 : ¬ x.toInt = 2 := fun h => h2 (Int32.toInt_inj.mp (by rw [h]; rfl))
  have g3 : ¬ x.toInt = 3 := fun h => h3 (Int32.toInt_inj.mp (by rw [h]; rfl))
  have g4 : ¬ x.toInt = 4 := fun h => h4 (Int32.toInt_inj.mp (by rw [h]; rfl))
  have g5 : ¬ x.toInt = 5 := fun h => h5 (Int32.toInt_inj.mp (by rw [h]; rfl))
  have g6 : ¬ x.toInt = 6 := fun h => h6 (Int32.toInt_inj.mp (by rw [h]; rfl))
  have g7 : ¬ x.toInt = 7 := fun h => h7 (Int32.toInt_inj.mp (by rw [h]; rfl))
  omega
