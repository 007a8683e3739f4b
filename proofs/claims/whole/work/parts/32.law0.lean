/-! THE CLAIM OUT OF ONE WALK OF THE LAW'S BODY. Your part is whole_start (and what it stands on); all else here is the same for every law, but numbers. -/
def R_law : String := "CellarTidesLaw"
def lw_P (b : Addr) (xs : List Int32) (args : Array Value) (s : State) : Prop := args = #[.ref b] ∧ s.IntsAt b xs ∧ xs.length ≤ 384 ∧ (Jvm.Cond.and given_1 narrow_1).before args s = true
def lw_Q (_ : Array Value) (s : State) (o : Outcome) (t : State) : Prop := o = .returned (some (.int 1)) ∧ Framed s o t [] 600000 7302250
def lw_Z (below : List Frame) (a : Array Value) (s : State) : State → Prop := fun t => ∃ o, t.status = .running ∧ Ended t below o ∧ lw_Q a s o t
/-- the law's own end, with 1 on the stack, nothing written that was there before, its room as the claim has it -/
theorem lw_ret {p : Program} {l : Launch} {e : Env} {s : State} {m : MethodId} {below : List Frame} {meth : Method} {c : Code} {b : Nat} (hx : p.tables.exec = Jvm.exec) (hb : c.code = code) (hr : meth.sig.returnType = ret) (hlocks : meth.locks = false) {pc : Nat} {H : Heap} {ls : Array Slot} (hdg : decode code pc = .ok (.ireturn, 1)) : W p l e room_1 s m #[Value.ref b] below meth c H [] 600000 7302250 (lw_Z below #[Value.ref b] s) (F0 m pc ls [.int 1]) := by
  intro T hT X
  obtain ⟨fs, hret, hrun, hended, hW, hframe⟩ := X.leave (v := some (.int 1)) (hlocks := hlocks) (fun h => by rw [hr] at h; cases h)
  have hmeth' : T.vm.method? m = some meth := X.method'
  refine ⟨T.setFrames fs, ?_, .returned (some (.int 1)), hrun, hended, rfl, ⟨_, rfl⟩, hW, hframe⟩
  jvm_step X.here [X.here.top, hx, hb, hdg, hmeth', hr, ret, narrow_b1]
  (try refine ⟨rfl, ?_⟩); (try refine ⟨rfl, ?_⟩)
  first | (intro acts; rw [hret _ acts rfl rfl rfl]) | rw [hret _ _ rfl rfl rfl]
  exact Steps.refl _
/-- what holds at the law's entry: the machine, the code, the tables' words (any of lw_tbl by 'hts w (by decide +kernel)'), the script of L ints xs at the cell b, what the Statement gives of the start (any of its parts by flat_of_before) -/
def lw_At (p : Program) (s : State) (m : MethodId) (meth : Method) (c : Code) (b L : Nat) (xs : Nat → Int32) : Prop :=
  p.tables.exec = Jvm.exec ∧ c.code = code ∧ meth.sig.returnType = ret ∧ c.maxLocals = 4 ∧ s.vm.findClass R_law = some m.cls ∧ (∀ w ∈ lw_tbl, w.before #[Value.ref b] s = true) ∧ va_X b L xs s s.heap ∧ b < s.heap.size ∧ meth.locks = false ∧ (Jvm.Cond.and given_1 narrow_1).before #[Value.ref b] s = true
def Sp_cellars (I : Nat → St → St → Prop) : Prop := ∀ (N : Nat) (u μ : St) (p1 : Int32), I N u μ → ∃ (r : Int32) (u2 : St) (μ2 : St), f_X11_cellars u p1 = some (r, u2) ∧ f_X12_cellars μ p1 = some (r, μ2) ∧ I N u2 μ2
def Sp_cellar (I : Nat → St → St → Prop) : Prop := ∀ (N : Nat) (u μ : St) (p1 p2 p3 : Int32), I N u μ → ∃ (r : Int32) (u2 : St) (μ2 : St), f_X11_cellar u p1 p2 p3 = some (r, u2) ∧ f_X12_cellar μ p1 p2 p3 = some (r, μ2) ∧ I N u2 μ2
def Sp_wall (I : Nat → St → St → Prop) : Prop := ∀ (N : Nat) (u μ : St) (p1 p2 : Int32), (p2 = 0 ∨ p2 = 1) → I N u μ → ∃ (r : Int32) (u2 : St) (μ2 : St), f_X11_wall u p1 p2 = some (r, u2) ∧ f_X12_wall μ p1 p2 = some (r, μ2) ∧ I N u2 μ2
def Sp_barrel (I : Nat → St → St → Prop) : Prop := ∀ (N : Nat) (u μ : St) (p1 p2 p3 p4 p5 : Int32), I N u μ → ∃ (r : Int32) (u2 : St) (μ2 : St), f_X11_barrel u p1 p2 p3 p4 p5 = some (r, u2) ∧ f_X12_barrel μ p1 p2 p3 p4 p5 = some (r, μ2) ∧ I N u2 μ2
def Sp_drink (I : Nat → St → St → Prop) : Prop := ∀ (N : Nat) (u μ : St) (p1 : Int32), I N u μ → ∃ (r : Int32) (u2 : St) (μ2 : St), f_X11_drink u p1 = some (r, u2) ∧ f_X12_drink μ p1 = some (r, μ2) ∧ I N u2 μ2
def Sp_set (I : Nat → St → St → Prop) : Prop := ∀ (N : Nat) (u μ : St) (p1 p2 : Int32), I N u μ → ∃ (r : Int32) (u2 : St) (μ2 : St), f_X11_set u p1 p2 = some (r, u2) ∧ f_X12_set μ p1 p2 = some (r, μ2) ∧ I N u2 μ2
def Sp_say (I : Nat → St → St → Prop) : Prop := ∀ (N : Nat) (u μ : St) (p1 : Int32), I N u μ → ∃ (r : Int32) (u2 : St) (μ2 : St), f_X11_say u p1 = some (r, u2) ∧ f_X12_say μ p1 = some (r, μ2) ∧ I N u2 μ2
def Sp_wipe (I : Nat → St → St → Prop) : Prop := ∀ (N : Nat) (u μ : St), I N u μ → ∃ (r : Int32) (u2 : St) (μ2 : St), f_X11_wipe u = some (r, u2) ∧ f_X12_wipe μ = some (r, μ2) ∧ I N u2 μ2
def Sp_fault (I : Nat → St → St → Prop) : Prop := ∀ (N : Nat) (u μ : St) (p1 : Int32), I N u μ → ∃ (r : Int32), f_X11_fault u p1 = some r ∧ f_X12_fault μ p1 = some r ∧ I N u μ
def Sp_table (I : Nat → St → St → Prop) : Prop := ∀ (N : Nat) (u μ : St), I N u μ → ∃ (r : Int32) (u2 : St) (μ2 : St), f_X11_table u = some (r, u2) ∧ f_X12_table μ = some (r, μ2) ∧ I N u2 μ2
def Sp_level (I : Nat → St → St → Prop) : Prop := ∀ (N : Nat) (u μ : St) (p1 : Int32), I N u μ → ∃ (r : Int32) (u2 : St), f_X11_level u p1 = some (r, u2) ∧ f_X12_level μ p1 = some r ∧ I N u2 μ
def Sp_breath (I : Nat → St → St → Prop) : Prop := ∀ (N : Nat) (u μ : St) (p1 p2 : Int32), I N u μ → ∃ (r : Int32) (u2 : St), f_X11_breath u p1 p2 = some (r, u2) ∧ f_X12_breath μ p1 p2 = some r ∧ I N u2 μ
def Sp_judge (I : Nat → St → St → Prop) : Prop := ∀ (N : Nat) (u μ : St) (p1 : Int32), I N u μ → ∃ (r : Int32) (u2 : St) (μ2 : St), f_X11_judge u p1 = some (r, u2) ∧ f_X12_judge μ p1 = some (r, μ2) ∧ I N u2 μ2
def Sp_behind (I : Nat → St → St → Prop) : Prop := ∀ (N : Nat) (u μ : St) (p1 p2 : Int32), I N u μ → ∃ (r : Int32) (u2 : St) (μ2 : St), f_X11_behind u p1 p2 = some (r, u2) ∧ f_X12_behind μ p1 p2 = some (r, μ2) ∧ I N u2 μ2
def Sp_hands (I : Nat → St → St → Prop) : Prop := ∀ (N : Nat) (u μ : St), I N u μ → ∃ (r : Int32) (u2 : St) (μ2 : St), f_X11_hands u = some (r, u2) ∧ f_X12_hands μ = some (r, μ2) ∧ I N u2 μ2
def Sp_acid (I : Nat → St → St → Prop) : Prop := ∀ (N : Nat) (u μ : St) (p1 p2 : Int32), I N u μ → ∃ (r : Int32) (u2 : St), f_X11_acid u p1 p2 = some (r, u2) ∧ f_X12_acid μ p1 p2 = some r ∧ I N u2 μ
def Sp_sours (I : Nat → St → St → Prop) : Prop := ∀ (N : Nat) (u μ : St) (p1 : Int32), I N u μ → ∃ (r : Int32) (u2 : St), f_X11_sours u p1 = some (r, u2) ∧ f_X12_sours μ p1 = some r ∧ I N u2 μ
def Sp_lost (I : Nat → St → St → Prop) : Prop := ∀ (N : Nat) (u μ : St) (p1 : Int32), I N u μ → ∃ (r : Int32) (u2 : St), f_X11_lost u p1 = some (r, u2) ∧ f_X12_lost μ p1 = some r ∧ I N u2 μ
def Sp_plan (I : Nat → St → St → Prop) : Prop := ∀ (N : Nat) (u μ : St) (p1 p2 p3 : Int32), I N u μ → ∃ (r : Int32) (u2 : St) (μ2 : St), f_X11_plan u p1 p2 p3 = some (r, u2) ∧ f_X12_plan μ p1 p2 p3 = some (r, μ2) ∧ I N u2 μ2
def Sp_value (I : Nat → St → St → Prop) : Prop := ∀ (N : Nat) (u μ : St) (p1 p2 : Int32), I N u μ → ∃ (r : Int32) (u2 : St), f_X11_value u p1 p2 = some (r, u2) ∧ f_X12_value μ p1 p2 = some r ∧ I N u2 μ
def Sp_opening (I : Nat → St → St → Prop) : Prop := ∀ (N : Nat) (u μ : St) (p1 p2 : Int32), I N u μ → ∃ (r : Int32) (u2 : St), f_X11_opening u p1 p2 = some (r, u2) ∧ f_X12_opening μ p1 p2 = some r ∧ I N u2 μ
def Sp_banquet (I : Nat → St → St → Prop) : Prop := ∀ (N : Nat) (u μ : St) (p1 : Int32), I N u μ → ∃ (r : Int32) (u2 : St), f_X11_banquet u p1 = some (r, u2) ∧ f_X12_banquet μ p1 = some r ∧ I N u2 μ
def Sp_poured (I : Nat → St → St → Prop) : Prop := ∀ (N : Nat) (u μ : St) (p1 p2 : Int32), I N u μ → ∃ (r : Int32) (u2 : St) (μ2 : St), f_X11_poured u p1 p2 = some (r, u2) ∧ f_X12_poured μ p1 p2 = some (r, μ2) ∧ I N u2 μ2
def Sp_likely (I : Nat → St → St → Prop) : Prop := ∀ (N : Nat) (u μ : St) (p1 p2 p3 p4 : Int32), I N u μ → ∃ (r : Int64) (u2 : St) (μ2 : St), f_X11_likely u p1 p2 p3 p4 = some (r, u2) ∧ f_X12_likely μ p1 p2 p3 p4 = some (r, μ2) ∧ I N u2 μ2
def Sp_mean (I : Nat → St → St → Prop) : Prop := ∀ (N : Nat) (u μ : St) (p1 p2 p3 : Int32), I N u μ → ∃ (r : Int64) (u2 : St) (μ2 : St), f_X11_mean u p1 p2 p3 = some (r, u2) ∧ f_X12_mean μ p1 p2 p3 = some (r, μ2) ∧ I N u2 μ2
def Sp_seen (I : Nat → St → St → Prop) : Prop := ∀ (N : Nat) (u μ : St) (p1 p2 p3 : Int32), I N u μ → ∃ (r : Int32) (u2 : St) (μ2 : St), f_X11_seen u p1 p2 p3 = some (r, u2) ∧ f_X12_seen μ p1 p2 p3 = some (r, μ2) ∧ I N u2 μ2
def Sp_forget (I : Nat → St → St → Prop) : Prop := ∀ (N : Nat) (u μ : St), I N u μ → ∃ (r : Int32) (u2 : St) (μ2 : St), f_X11_forget u = some (r, u2) ∧ f_X12_forget μ = some (r, μ2) ∧ I N u2 μ2
def Sp_walls (I : Nat → St → St → Prop) : Prop := ∀ (N : Nat) (u μ : St), I N u μ → ∃ (r : Int32) (u2 : St) (μ2 : St), f_X11_walls u = some (r, u2) ∧ f_X12_walls μ = some (r, μ2) ∧ I N u2 μ2
def Sp_moons (I : Nat → St → St → Prop) : Prop := ∀ (N : Nat) (u μ : St), I N u μ → ∃ (r : Int32) (u2 : St) (μ2 : St), f_X11_moons u = some (r, u2) ∧ f_X12_moons μ = some (r, μ2) ∧ I N u2 μ2
def Sp_open (I : Nat → St → St → Prop) : Prop := ∀ (N : Nat) (u μ : St) (p1 : Int32), I N u μ → ∃ (r : Int32) (u2 : St) (μ2 : St), f_X11_open u p1 = some (r, u2) ∧ f_X12_open μ p1 = some (r, μ2) ∧ I N u2 μ2
def Sp_shifts (I : Nat → St → St → Prop) : Prop := ∀ (N : Nat) (u μ : St) (p1 p2 p3 : Int32), I N u μ → ∃ (r : Int32) (u2 : St), f_X11_shifts u p1 p2 p3 = some (r, u2) ∧ f_X12_shifts μ p1 p2 p3 = some r ∧ I N u2 μ
def Sp_drought (I : Nat → St → St → Prop) : Prop := ∀ (N : Nat) (u μ : St) (p1 : Int32), I N u μ → ∃ (r : Int32) (u2 : St) (μ2 : St), f_X11_drought u p1 = some (r, u2) ∧ f_X12_drought μ p1 = some (r, μ2) ∧ I N u2 μ2
def Sp_quiet (I : Nat → St → St → Prop) : Prop := ∀ (N : Nat) (u μ : St) (p1 : Int32), I N u μ → ∃ (r : Int32) (u2 : St), f_X11_quiet u p1 = some (r, u2) ∧ f_X12_quiet μ p1 = some r ∧ I N u2 μ
def Sp_period (I : Nat → St → St → Prop) : Prop := ∀ (N : Nat) (u μ : St), I N u μ → ∃ (r : Int32), f_X11_period u = some r ∧ f_X12_period μ = some r ∧ I N u μ
def Sp_year (I : Nat → St → St → Prop) : Prop := ∀ (N : Nat) (u μ : St) (p1 p2 p3 p4 : Int32), I N u μ → ∃ (r : Int32) (u2 : St) (μ2 : St), f_X11_year u p1 p2 p3 p4 = some (r, u2) ∧ f_X12_year μ p1 p2 p3 p4 = some (r, μ2) ∧ I N u2 μ2
def Sp_image (I : Nat → St → St → Prop) : Prop := ∀ (N : Nat) (u μ : St) (p1 : Int32), I N u μ → (∃ (r : Int32) (u2 : St) (μ2 : St), f_X11_image u p1 = some (r, u2) ∧ f_X12_image μ p1 = some (r, μ2) ∧ I N u2 μ2) ∨ (∃ (u2 μ2 : St), (p1 = 0 ∨ p1 = 1) ∧ u.1 17 (ix p1) = 0 ∧ N = 38 ∧ (∀ j, u.1 17 j = 0 ∨ ix (u.1 17 j) < 38) ∧ f_X9_copyFrom_38_1 (sI (tw 38 u) 17 (ix p1) 38) = some u2 ∧ f_X12_image μ p1 = some (1, μ2) ∧ I 54 u2 μ2) ∨ (∃ (u2 μ2 : St), (p1 = 0 ∨ p1 = 1) ∧ u.1 17 (ix p1) = 0 ∧ N = 54 ∧ (∀ j, u.1 17 j = 0 ∨ ix (u.1 17 j) < 54) ∧ f_X9_copyFrom_54_1 (sI (tw 54 u) 17 (ix p1) 54) = some u2 ∧ f_X12_image μ p1 = some (1, μ2) ∧ I 70 u2 μ2)
def Sp_restore (I : Nat → St → St → Prop) : Prop := ∀ (N : Nat) (u μ : St) (p1 : Int32), I N u μ → ∃ (r : Int32) (u2 : St) (μ2 : St), f_X11_restore u p1 = some (r, u2) ∧ f_X12_restore μ p1 = some (r, μ2) ∧ I N u2 μ2
def Sp_told (I : Nat → St → St → Prop) : Prop := ∀ (N : Nat) (u μ : St) (p1 : Int32), I N u μ → ∃ (r : Int32), f_X11_told u p1 = some r ∧ f_X12_told μ p1 = some r ∧ I N u μ
/-- what the images have of the world's size -/
def Sp_N (I : Nat → St → St → Prop) : Prop := ∀ (N : Nat) (u μ : St), I N u μ → 38 ≤ N ∧ (∀ j, u.1 17 j = 38 → 54 ≤ N) ∧ (∀ j, u.1 17 j = 54 → 70 ≤ N)
abbrev tyL (cI cJ cR cZ : ClassId) : List (ClassId × FieldType) := [(cI, .int), (cJ, .long), (cR, .object "CellarTides$Town"), (cZ, .boolean)]
def LCX (p : Program) (s : State) (m : MethodId) (c : Code) (D : va_G) (cI cJ cR cZ : ClassId) (bS L : Nat) (xs : Nat → Int32) (tF tL tM : Nat) : Prop := p.tables.exec = Jvm.exec ∧ c.code = cL_law ∧ c.maxLocals = 4 ∧ s.vm.findClass RL = some m.cls ∧ (∀ w ∈ Gd, w.before #[Value.ref bS] s = true) ∧ va_K D vwCl (tyL cI cJ cR cZ) s ∧ NB s ∧ ZW s ∧ SZ cI tF tL tM (fun q => s.heap.size ≤ q) s s.heap ∧ va_X bS L xs s s.heap ∧ bS < s.heap.size
theorem AB_in {N : Nat} {a : Nat → Nat} {E : WE} {u : St} {sz : Nat} : ∀ q, AB N a sz q → (∃ (k : Nat) (e : va_E), (wX N a E u)[k]? = some (q, e)) ∨ sz ≤ q := by
  intro q hq
  rcases hq with ⟨c9, h9, rfl⟩ | h9
  · exact Or.inl ⟨c9, _, wX_at h9 rfl⟩
  · exact Or.inr h9
theorem AB_to {D : va_G} {A : Nat → Prop} {N : Nat} {a : Nat → Nat} {E : WE} {u : St} {H0 H : Heap} {locs : List Loc} (hD : va_D A (wX N a E u)) (hS : va_S A H0 H locs) (hA : ∀ q, H0.size ≤ q → A q) : ∀ q, AB N a H.size q → A q := by
  intro q hq
  rcases hq with ⟨c9, h9, rfl⟩ | h9
  · exact hD.2 c9 _ (wX_at h9 rfl)
  · exact hA q (Nat.le_trans hS.1 h9)
section LW
variable {p : Program} {l : Launch} {e : Env} {R : Room} {s : State} {m : MethodId} {args : Array Value} {below : List Frame} {meth : Method} {c : Code} {H : Heap} {locs : List Loc} {cells slots : Nat} {Q : State → Prop} {pc : Nat} {ls : Array Slot} {rest st0 : List Value} {cc : ByteArray} {D : va_G} {tys : List (ClassId × FieldType)} {N : Nat} {a : Nat → Nat} {E : WE} {u u2 : St} {own : String} {index : Nat} {y : MethodName} {cY : ByteArray} {maxY fr lo n nL : Nat} {ret : Option FieldType} {As : List Value} {A : Nat → Prop} {wO : va_W}
theorem lLi (hx : p.tables.exec = Jvm.exec) (hb : c.code = cc) (hml : c.maxLocals = nL) (hown : s.vm.findClass own = some m.cls) (hts : ∀ w ∈ Gd, w.before args s = true) (hK : va_K D vwCl tys s) (hN : NB s) {q : Nat} {r : Int32} (hM : Ci l y cY maxY ret fr lo D tys N a E (.ref (a q) :: As) u r u2) {C : String} (g : GoodIn Gd (wsV own index C y (Cond.code y cY maxY ret :: Gd))) (hC : y.cls = C) (hd : y.cls ≠ "java/lang/invoke/MethodHandle" ∧ y.cls ≠ "java/lang/invoke/VarHandle" ∧ (parseMethodDescriptor y.desc).map (fun d => d.parameters.length) = some n) (hn : As.length = n) (hF : fr + 1 ≤ R.frames) (hLo : 8 + (maxY + 11) + lo ≤ R.locals) (h : Hh D A (wX N a E u ++ wO) s.heap H locs) (hA : ∀ q, s.heap.size ≤ q → A q) (hsize : ls.size = nL) (hcs : cells ≤ R.cells ∧ slots ≤ R.slots) (hq : q < N) {ci : Nat} {fs : List Value} {T : u_T} {M : Nat} (he : E (u.1 q) (u.2 q) q = .inr (ci, fs)) (hci : vwCl[ci]? = some (C, T, M)) (hst : st0 = As.reverse ++ .ref (a q) :: rest) (hr : (rest.map fun v => v.category).sum ≤ 8) (hdg : decode cc pc = .ok (.invokevirtual index, 3)) (kk : ∀ (H1 : Heap) (locs1 : List Loc), Hh D A (wX N a E u2 ++ wO) s.heap H1 locs1 → W p l e R s m args below meth c H1 locs1 cells slots Q (F0 m (pc + 3) ls (.int r :: rest))) : W p l e R s m args below meth c H locs cells slots Q (F0 m pc ls st0) := by
  have hFc : ∀ q, AB N a H.size q → A q := AB_to (D := D) (D_l h.2.1) h.2.2 hA
  refine va_calli (va_runV (As := As) (rest := rest) ⟨hx, hb, hml, hown, hts⟩ (hM H.size) (cwV n hts g rfl rfl rfl ⟨hC, hd⟩ ⟨hF, hLo⟩) ⟨PB_blind, va_recv hK (P_l h.1) hci (wX_at hq he), fun U hU hW => ⟨rfl, ⟨by rw [hU], by rw [hU]; exact P_l h.1, va_K.moved hW.alike hK, (D_l h.2.1).weaken (fun _ _ _ _ => trivial), hN.warm hW⟩⟩⟩ rfl hn hsize hst (lv_room hr) hdg hcs) h.2.2 (fun q _ h9 => hFc q h9) hFc (fun r1 u1 t H1 locs1 ht hvm hw hB hz hk hS => ?_)
  obtain ⟨rfl, rfl⟩ := hw
  obtain ⟨hP2, hD2⟩ := J_l h.1 h.2.1 AB_in hk hFc (ht ▸ hB.1) hB.2
  exact kk H1 locs1 ⟨hP2, hD2, hS⟩
theorem lLl (hx : p.tables.exec = Jvm.exec) (hb : c.code = cc) (hml : c.maxLocals = nL) (hown : s.vm.findClass own = some m.cls) (hts : ∀ w ∈ Gd, w.before args s = true) (hK : va_K D vwCl tys s) (hN : NB s) {q : Nat} {r : Int64} (hM : Cl l y cY maxY ret fr lo D tys N a E (.ref (a q) :: As) u r u2) {C : String} (g : GoodIn Gd (wsV own index C y (Cond.code y cY maxY ret :: Gd))) (hC : y.cls = C) (hd : y.cls ≠ "java/lang/invoke/MethodHandle" ∧ y.cls ≠ "java/lang/invoke/VarHandle" ∧ (parseMethodDescriptor y.desc).map (fun d => d.parameters.length) = some n) (hn : As.length = n) (hF : fr + 1 ≤ R.frames) (hLo : 8 + (maxY + 11) + lo ≤ R.locals) (h : Hh D A (wX N a E u ++ wO) s.heap H locs) (hA : ∀ q, s.heap.size ≤ q → A q) (hsize : ls.size = nL) (hcs : cells ≤ R.cells ∧ slots ≤ R.slots) (hq : q < N) {ci : Nat} {fs : List Value} {T : u_T} {M : Nat} (he : E (u.1 q) (u.2 q) q = .inr (ci, fs)) (hci : vwCl[ci]? = some (C, T, M)) (hst : st0 = As.reverse ++ .ref (a q) :: rest) (hr : (rest.map fun v => v.category).sum ≤ 8) (hdg : decode cc pc = .ok (.invokevirtual index, 3)) (kk : ∀ (H1 : Heap) (locs1 : List Loc), Hh D A (wX N a E u2 ++ wO) s.heap H1 locs1 → W p l e R s m args below meth c H1 locs1 cells slots Q (F0 m (pc + 3) ls (.long r :: rest))) : W p l e R s m args below meth c H locs cells slots Q (F0 m pc ls st0) := by
  have hFc : ∀ q, AB N a H.size q → A q := AB_to (D := D) (D_l h.2.1) h.2.2 hA
  refine va_calll (va_runV (As := As) (rest := rest) ⟨hx, hb, hml, hown, hts⟩ (hM H.size) (cwV n hts g rfl rfl rfl ⟨hC, hd⟩ ⟨hF, hLo⟩) ⟨PB_blind, va_recv hK (P_l h.1) hci (wX_at hq he), fun U hU hW => ⟨rfl, ⟨by rw [hU], by rw [hU]; exact P_l h.1, va_K.moved hW.alike hK, (D_l h.2.1).weaken (fun _ _ _ _ => trivial), hN.warm hW⟩⟩⟩ rfl hn hsize hst (lv_room hr) hdg hcs) h.2.2 (fun q _ h9 => hFc q h9) hFc (fun r1 u1 t H1 locs1 ht hvm hw hB hz hk hS => ?_)
  obtain ⟨rfl, rfl⟩ := hw
  obtain ⟨hP2, hD2⟩ := J_l h.1 h.2.1 AB_in hk hFc (ht ▸ hB.1) hB.2
  exact kk H1 locs1 ⟨hP2, hD2, hS⟩
theorem lLz (hx : p.tables.exec = Jvm.exec) (hb : c.code = cc) (hml : c.maxLocals = nL) (hown : s.vm.findClass own = some m.cls) (hts : ∀ w ∈ Gd, w.before args s = true) (hK : va_K D vwCl tys s) (hN : NB s) {q : Nat} {r : Int32} {cI : ClassId} {tF tL tM : Nat} (hM : CiZ cI tF tL tM l y cY maxY ret fr lo D tys N a E (.ref (a q) :: As) u r u2) {C : String} (g : GoodIn Gd (wsV own index C y (Cond.code y cY maxY ret :: Gd))) (hC : y.cls = C) (hd : y.cls ≠ "java/lang/invoke/MethodHandle" ∧ y.cls ≠ "java/lang/invoke/VarHandle" ∧ (parseMethodDescriptor y.desc).map (fun d => d.parameters.length) = some n) (hn : As.length = n) (hF : fr + 1 ≤ R.frames) (hLo : 8 + (maxY + 11) + lo ≤ R.locals) (h : Hh D A (wX N a E u ++ wO) s.heap H locs) (hA : ∀ q, s.heap.size ≤ q → A q) (hZ : SZ cI tF tL tM A s s.heap) (hsize : ls.size = nL) (hcs : cells ≤ R.cells ∧ slots ≤ R.slots) (hq : q < N) {ci : Nat} {fs : List Value} {T : u_T} {M : Nat} (he : E (u.1 q) (u.2 q) q = .inr (ci, fs)) (hci : vwCl[ci]? = some (C, T, M)) (hst : st0 = As.reverse ++ .ref (a q) :: rest) (hr : (rest.map fun v => v.category).sum ≤ 8) (hdg : decode cc pc = .ok (.invokevirtual index, 3)) (kk : ∀ (H1 : Heap) (locs1 : List Loc), Hh D A (wX N a E u2 ++ wO) s.heap H1 locs1 → W p l e R s m args below meth c H1 locs1 cells slots Q (F0 m (pc + 3) ls (.int r :: rest))) : W p l e R s m args below meth c H locs cells slots Q (F0 m pc ls st0) := by
  have hFc : ∀ q, AB N a H.size q → A q := AB_to (D := D) (D_l h.2.1) h.2.2 hA
  refine va_calli (va_runV (As := As) (rest := rest) ⟨hx, hb, hml, hown, hts⟩ (hM H.size) (cwV n hts g rfl rfl rfl ⟨hC, hd⟩ ⟨hF, hLo⟩) ⟨(fun a U g mk q => ⟨q.1, (PB_blind (av := .ref (_) :: As) a U g mk ⟨q.1, q.2.1⟩).2, SZ.moved (u := U) (U := U.calling g mk a) (Vm.Alike.refl U.vm) q.2.2⟩), va_recv hK (P_l h.1) hci (wX_at hq he), fun U hU hW => ⟨rfl, ⟨⟨by rw [hU], by rw [hU]; exact P_l h.1, va_K.moved hW.alike hK, (D_l h.2.1).weaken (fun _ _ _ _ => trivial), hN.warm hW⟩, by rw [hU]; exact (((hZ.kept h.2.2.2.1).moved hW.alike).narrow hFc)⟩⟩⟩ rfl hn hsize hst (lv_room hr) hdg hcs) h.2.2 (fun q _ h9 => hFc q h9) hFc (fun r1 u1 t H1 locs1 ht hvm hw hB hz hk hS => ?_)
  obtain ⟨rfl, rfl⟩ := hw
  obtain ⟨hP2, hD2⟩ := J_l h.1 h.2.1 AB_in hk hFc (ht ▸ hB.1) hB.2
  exact kk H1 locs1 ⟨hP2, hD2, hS⟩
theorem lRi (hx : p.tables.exec = Jvm.exec) (hb : c.code = cc) (hml : c.maxLocals = nL) (hown : s.vm.findClass own = some m.cls) (hts : ∀ w ∈ Gd, w.before args s = true) (hK : va_K D vwCl tys s) (hN : NB s) {q : Nat} {r : Int32} (hM : Ci l y cY maxY ret fr lo D tys N a E (.ref (a q) :: As) u r u2) {C : String} (g : GoodIn Gd (wsV own index C y (Cond.code y cY maxY ret :: Gd))) (hC : y.cls = C) (hd : y.cls ≠ "java/lang/invoke/MethodHandle" ∧ y.cls ≠ "java/lang/invoke/VarHandle" ∧ (parseMethodDescriptor y.desc).map (fun d => d.parameters.length) = some n) (hn : As.length = n) (hF : fr + 1 ≤ R.frames) (hLo : 8 + (maxY + 11) + lo ≤ R.locals) (h : Hh D A (wO ++ wX N a E u) s.heap H locs) (hA : ∀ q, s.heap.size ≤ q → A q) (hsize : ls.size = nL) (hcs : cells ≤ R.cells ∧ slots ≤ R.slots) (hq : q < N) {ci : Nat} {fs : List Value} {T : u_T} {M : Nat} (he : E (u.1 q) (u.2 q) q = .inr (ci, fs)) (hci : vwCl[ci]? = some (C, T, M)) (hst : st0 = As.reverse ++ .ref (a q) :: rest) (hr : (rest.map fun v => v.category).sum ≤ 8) (hdg : decode cc pc = .ok (.invokevirtual index, 3)) (kk : ∀ (H1 : Heap) (locs1 : List Loc), Hh D A (wO ++ wX N a E u2) s.heap H1 locs1 → W p l e R s m args below meth c H1 locs1 cells slots Q (F0 m (pc + 3) ls (.int r :: rest))) : W p l e R s m args below meth c H locs cells slots Q (F0 m pc ls st0) := by
  have hFc : ∀ q, AB N a H.size q → A q := AB_to (D := D) (D_r h.2.1) h.2.2 hA
  refine va_calli (va_runV (As := As) (rest := rest) ⟨hx, hb, hml, hown, hts⟩ (hM H.size) (cwV n hts g rfl rfl rfl ⟨hC, hd⟩ ⟨hF, hLo⟩) ⟨PB_blind, va_recv hK (P_r h.1) hci (wX_at hq he), fun U hU hW => ⟨rfl, ⟨by rw [hU], by rw [hU]; exact P_r h.1, va_K.moved hW.alike hK, (D_r h.2.1).weaken (fun _ _ _ _ => trivial), hN.warm hW⟩⟩⟩ rfl hn hsize hst (lv_room hr) hdg hcs) h.2.2 (fun q _ h9 => hFc q h9) hFc (fun r1 u1 t H1 locs1 ht hvm hw hB hz hk hS => ?_)
  obtain ⟨rfl, rfl⟩ := hw
  obtain ⟨hP2, hD2⟩ := J_r h.1 h.2.1 AB_in hk hFc (ht ▸ hB.1) hB.2
  exact kk H1 locs1 ⟨hP2, hD2, hS⟩
theorem lRl (hx : p.tables.exec = Jvm.exec) (hb : c.code = cc) (hml : c.maxLocals = nL) (hown : s.vm.findClass own = some m.cls) (hts : ∀ w ∈ Gd, w.before args s = true) (hK : va_K D vwCl tys s) (hN : NB s) {q : Nat} {r : Int64} (hM : Cl l y cY maxY ret fr lo D tys N a E (.ref (a q) :: As) u r u2) {C : String} (g : GoodIn Gd (wsV own index C y (Cond.code y cY maxY ret :: Gd))) (hC : y.cls = C) (hd : y.cls ≠ "java/lang/invoke/MethodHandle" ∧ y.cls ≠ "java/lang/invoke/VarHandle" ∧ (parseMethodDescriptor y.desc).map (fun d => d.parameters.length) = some n) (hn : As.length = n) (hF : fr + 1 ≤ R.frames) (hLo : 8 + (maxY + 11) + lo ≤ R.locals) (h : Hh D A (wO ++ wX N a E u) s.heap H locs) (hA : ∀ q, s.heap.size ≤ q → A q) (hsize : ls.size = nL) (hcs : cells ≤ R.cells ∧ slots ≤ R.slots) (hq : q < N) {ci : Nat} {fs : List Value} {T : u_T} {M : Nat} (he : E (u.1 q) (u.2 q) q = .inr (ci, fs)) (hci : vwCl[ci]? = some (C, T, M)) (hst : st0 = As.reverse ++ .ref (a q) :: rest) (hr : (rest.map fun v => v.category).sum ≤ 8) (hdg : decode cc pc = .ok (.invokevirtual index, 3)) (kk : ∀ (H1 : Heap) (locs1 : List Loc), Hh D A (wO ++ wX N a E u2) s.heap H1 locs1 → W p l e R s m args below meth c H1 locs1 cells slots Q (F0 m (pc + 3) ls (.long r :: rest))) : W p l e R s m args below meth c H locs cells slots Q (F0 m pc ls st0) := by
  have hFc : ∀ q, AB N a H.size q → A q := AB_to (D := D) (D_r h.2.1) h.2.2 hA
  refine va_calll (va_runV (As := As) (rest := rest) ⟨hx, hb, hml, hown, hts⟩ (hM H.size) (cwV n hts g rfl rfl rfl ⟨hC, hd⟩ ⟨hF, hLo⟩) ⟨PB_blind, va_recv hK (P_r h.1) hci (wX_at hq he), fun U hU hW => ⟨rfl, ⟨by rw [hU], by rw [hU]; exact P_r h.1, va_K.moved hW.alike hK, (D_r h.2.1).weaken (fun _ _ _ _ => trivial), hN.warm hW⟩⟩⟩ rfl hn hsize hst (lv_room hr) hdg hcs) h.2.2 (fun q _ h9 => hFc q h9) hFc (fun r1 u1 t H1 locs1 ht hvm hw hB hz hk hS => ?_)
  obtain ⟨rfl, rfl⟩ := hw
  obtain ⟨hP2, hD2⟩ := J_r h.1 h.2.1 AB_in hk hFc (ht ▸ hB.1) hB.2
  exact kk H1 locs1 ⟨hP2, hD2, hS⟩
end LW
theorem tbOut38 {x : Int32} (h0 : ¬ x = 0) (h1 : ¬ x = 1) (h2 : ¬ x = 2) (h3 : ¬ x = 3) (h4 : ¬ x = 4) (h5 : ¬ x = 5) (h6 : ¬ x = 6) (h7 : ¬ x = 7) (h8 : ¬ x = 8) (h9 : ¬ x = 9) (h10 : ¬ x = 10) (h11 : ¬ x = 11) (h12 : ¬ x = 12) (h13 : ¬ x = 13) (h14 : ¬ x = 14) (h15 : ¬ x = 15) (h16 : ¬ x = 16) (h17 : ¬ x = 17) (h18 : ¬ x = 18) (h19 : ¬ x = 19) (h20 : ¬ x = 20) (h21 : ¬ x = 21) (h22 : ¬ x = 22) (h23 : ¬ x = 23) (h24 : ¬ x = 24) (h25 : ¬ x = 25) (h26 : ¬ x = 26) (h27 : ¬ x = 27) (h28 : ¬ x = 28) (h29 : ¬ x = 29) (h30 : ¬ x = 30) (h31 : ¬ x = 31) (h32 : ¬ x = 32) (h33 : ¬ x = 33) (h34 : ¬ x = 34) (h35 : ¬ x = 35) (h36 : ¬ x = 36) (h37 : ¬ x = 37) : x.toInt < 0 ∨ 37 < x.toInt := by
  have g0 : ¬ x.toInt = 0 := fun h => h0 (Int32.toInt_inj.mp (by rw [h]; rfl))
  have g1 : ¬ x.toInt = 1 := fun h => h1 (Int32.toInt_inj.mp (by rw [h]; rfl))
  have g2 : ¬ x.toInt = 2 := fun h => h2 (Int32.toInt_inj.mp (by rw [h]; rfl))
  have g3 : ¬ x.toInt = 3 := fun h => h3 (Int32.toInt_inj.mp (by rw [h]; rfl))
  have g4 : ¬ x.toInt = 4 := fun h => h4 (Int32.toInt_inj.mp (by rw [h]; rfl))
  have g5 : ¬ x.toInt = 5 := fun h => h5 (Int32.toInt_inj.mp (by rw [h]; rfl))
  have g6 : ¬ x.toInt = 6 := fun h => h6 (Int32.toInt_inj.mp (by rw [h]; rfl))
  have g7 : ¬ x.toInt = 7 := fun h => h7 (Int32.toInt_inj.mp (by rw [h]; rfl))
  have g8 : ¬ x.toInt = 8 := fun h => h8 (Int32.toInt_inj.mp (by rw [h]; rfl))
  have g9 : ¬ x.toInt = 9 := fun h => h9 (Int32.toInt_inj.mp (by rw [h]; rfl))
  have g10 : ¬ x.toInt = 10 := fun h => h10 (Int32.toInt_inj.mp (by rw [h]; rfl))
  have g11 : ¬ x.toInt = 11 := fun h => h11 (Int32.toInt_inj.mp (by rw [h]; rfl))
  have g12 : ¬ x.toInt = 12 := fun h => h12 (Int32.toInt_inj.mp (by rw [h]; rfl))
  have g13 : ¬ x.toInt = 13 := fun h => h13 (Int32.toInt_inj.mp (by rw [h]; rfl))
  have g14 : ¬ x.toInt = 14 := fun h => h14 (Int32.toInt_inj.mp (by rw [h]; rfl))
  have g15 : ¬ x.toInt = 15 := fun h => h15 (Int32.toInt_inj.mp (by rw [h]; rfl))
  have g16 : ¬ x.toInt = 16 := fun h => h16 (Int32.toInt_inj.mp (by rw [h]; rfl))
  have g17 : ¬ x.toInt = 17 := fun h => h17 (Int32.toInt_inj.mp (by rw [h]; rfl))
  have g18 : ¬ x.toInt = 18 := fun h => h18 (Int32.toInt_inj.mp (by rw [h]; rfl))
  have g19 : ¬ x.toInt = 19 := fun h => h19 (Int32.toInt_inj.mp (by rw [h]; rfl))
  have g20 : ¬ x.toInt = 20 := fun h => h20 (Int32.toInt_inj.mp (by rw [h]; rfl))
  have g21 : ¬ x.toInt = 21 := fun h => h21 (Int32.toInt_inj.mp (by rw [h]; rfl))
  have g22 : ¬ x.toInt = 22 := fun h => h22 (Int32.toInt_inj.mp (by rw [h]; rfl))
  have g23 : ¬ x.toInt = 23 := fun h => h23 (Int32.toInt_inj.mp (by rw [h]; rfl))
  have g24 : ¬ x.toInt = 24 := fun h => h24 (Int32.toInt_inj.mp (by rw [h]; rfl))
  have g25 : ¬ x.toInt = 25 := fun h => h25 (Int32.toInt_inj.mp (by rw [h]; rfl))
  have g26 : ¬ x.toInt = 26 := fun h => h26 (Int32.toInt_inj.mp (by rw [h]; rfl))
  have g27 : ¬ x.toInt = 27 := fun h => h27 (Int32.toInt_inj.mp (by rw [h]; rfl))
  have g28 : ¬ x.toInt = 28 := fun h => h28 (Int32.toInt_inj.mp (by rw [h]; rfl))
  have g29 : ¬ x.toInt = 29 := fun h => h29 (Int32.toInt_inj.mp (by rw [h]; rfl))
  have g30 : ¬ x.toInt = 30 := fun h => h30 (Int32.toInt_inj.mp (by rw [h]; rfl))
  have g31 : ¬ x.toInt = 31 := fun h => h31 (Int32.toInt_inj.mp (by rw [h]; rfl))
  have g32 : ¬ x.toInt = 32 := fun h => h32 (Int32.toInt_inj.mp (by rw [h]; rfl))
  have g33 : ¬ x.toInt = 33 := fun h => h33 (Int32.toInt_inj.mp (by rw [h]; rfl))
  have g34 : ¬ x.toInt = 34 := fun h => h34 (Int32.toInt_inj.mp (by rw [h]; rfl))
  have g35 : ¬ x.toInt = 35 := fun h => h35 (Int32.toInt_inj.mp (by rw [h]; rfl))
  have g36 : ¬ x.toInt = 36 := fun h => h36 (Int32.toInt_inj.mp (by rw [h]; rfl))
  have g37 : ¬ x.toInt = 37 := fun h => h37 (Int32.toInt_inj.mp (by rw [h]; rfl))
  omega
