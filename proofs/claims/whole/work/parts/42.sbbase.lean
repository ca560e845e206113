/-! own rows: texts. The words of private methods of AbstractStringBuilder for a StringBuilder; what stands in the heap from the start (statics, tables of digits, three texts); calls that cost cells and move the array -/
def sbSel : List Cond := [Cond.selects "java/lang/StringBuilder" yJ1_ensureCapacityInternal yJ1_ensureCapacityInternal, Cond.selects "java/lang/StringBuilder" yJ1_newCapacity yJ1_newCapacity, Cond.selects "java/lang/StringBuilder" yJ1_appendNull yJ1_appendNull, Cond.selects "java/lang/StringBuilder" yJ1_putStringAt yJ1_putStringAt, Cond.selects "java/lang/StringBuilder" yJ1_inflateIfNeededFor yJ1_inflateIfNeededFor, Cond.selects "java/lang/StringBuilder" yJ1_inflate yJ1_inflate]
theorem sbSel_good : ∀ w ∈ sbSel, goodWord w = true := by decide +kernel
def ALLW2 : List Cond := sbSel ++ ALLW
theorem up {w : Cond} (h : w ∈ ALLW) : w ∈ ALLW2 := List.mem_append_right _ h
theorem htsB {y : MethodName} {b : ByteArray} {n : Nat} {r : Option FieldType} {args : Array Value} {s : State} (h : ∀ w ∈ (Cond.code y b n r :: ALLW2), w.before args s = true) : ∀ w ∈ ALLW2, w.before args s = true := fun w hw => h w (List.mem_cons_of_mem _ hw)
theorem allG2 : GoodIn ALLW2 ALLW2 := fun w h => ⟨h, (List.mem_append.mp h).elim (fun h1 => good_of_word (sbSel_good w h1)) (fun h1 => (allG w h1).2)⟩
theorem gup {ws : List Cond} (h : GoodIn ALLW ws) : GoodIn ALLW2 ws := fun w hw => ⟨up (h w hw).1, (h w hw).2⟩
theorem gdC2 {y : MethodName} {b : ByteArray} {n : Nat} {r : Option FieldType} (hc : Cond.code y b n r ∈ ALLW) : GoodIn ALLW2 (Cond.code y b n r :: ALLW2) := fun w h => (List.mem_cons.mp h).elim (fun e => by rw [e]; exact allG2 _ (up hc)) (allG2 w)
theorem gdS2 {own : String} {idx : Nat} {y : MethodName} {ws : List Cond} (h1 : Cond.methodLink own idx y ∈ ALLW2) (h2 : Cond.static y ∈ ALLW2) (h3 : Cond.initialized y.cls ∈ ALLW2) (hw : GoodIn ALLW2 ws) : GoodIn ALLW2 (va_wsS own idx y ws) := by
  intro w h
  unfold va_wsS at h
  simp only [List.cons_append, List.nil_append, List.mem_cons] at h
  rcases h with rfl | rfl | rfl | h
  · exact allG2 _ h1
  · exact allG2 _ h2
  · exact allG2 _ h3
  · exact hw w h
theorem gdV2 {own C : String} {idx : Nat} {y : MethodName} {ws : List Cond} (h1 : Cond.methodLink own idx y ∈ ALLW2) (h2 : Cond.instanceMethod y ∈ ALLW2) (h3 : Cond.selects C y y ∈ ALLW2) (h4 : Cond.initialized C ∈ ALLW2) (hw : GoodIn ALLW2 ws) : GoodIn ALLW2 (wsV own idx C y ws) := by
  intro w h
  unfold wsV at h
  simp only [List.cons_append, List.nil_append, List.mem_cons] at h
  rcases h with rfl | rfl | rfl | rfl | h
  · exact allG2 _ h1
  · exact allG2 _ h2
  · exact allG2 _ h3
  · exact allG2 _ h4
  · exact hw w h
theorem gdU2 {own C owner : String} {idx : Nat} {x y : MethodName} {ws : List Cond} (h1 : Cond.methodLink own idx x ∈ ALLW2) (h2 : Cond.sameMethod x.cls owner x.name x.desc ∈ ALLW2) (h3 : Cond.selects C x y ∈ ALLW2) (h4 : Cond.instanceMethod y ∈ ALLW2) (h5 : Cond.initialized y.cls ∈ ALLW2) (hw : GoodIn ALLW2 ws) : GoodIn ALLW2 (va_wsU own idx C owner x y ws) := by
  intro w h
  unfold va_wsU at h
  simp only [List.cons_append, List.nil_append, List.mem_cons] at h
  rcases h with rfl | rfl | rfl | rfl | rfl | h
  · exact allG2 _ h1
  · exact allG2 _ h2
  · exact allG2 _ h3
  · exact allG2 _ h4
  · exact allG2 _ h5
  · exact hw w h
theorem gdSU2 {own : String} {idx : Nat} {y : MethodName} {ws : List Cond} (h1 : Cond.methodLink own idx y ∈ ALLW2) (h2 : Cond.sameMethod y.cls y.cls y.name y.desc ∈ ALLW2) (h3 : Cond.superclass own y.cls ∈ ALLW2) (h4 : Cond.instanceMethod y ∈ ALLW2) (h5 : Cond.initialized y.cls ∈ ALLW2) (hw : GoodIn ALLW2 ws) : GoodIn ALLW2 (va_wsSU own idx y ws) := by
  intro w h
  unfold va_wsSU at h
  simp only [List.cons_append, List.nil_append, List.mem_cons] at h
  rcases h with rfl | rfl | rfl | rfl | rfl | h
  · exact allG2 _ h1
  · exact allG2 _ h2
  · exact allG2 _ h3
  · exact allG2 _ h4
  · exact allG2 _ h5
  · exact hw w h
def imax (x y : Int32) : Int32 := if x < y then y else x
def dgO (j : Nat) : Int32 := nI (48 + j % 10)
def dgT (j : Nat) : Int32 := nI (48 + j / 10)
def bud (a b x y : Nat) : Option Unit := if x ≤ a ∧ y ≤ b then some () else none
theorem bud_s {a b x y : Nat} (h : bud a b x y = some ()) : x ≤ a ∧ y ≤ b := by
  unfold bud at h
  split at h
  · assumption
  · cases h
def nz (ty : FieldType) (x : Int32) : Option Int32 := if vp_nar ty x = x then some x else none
theorem nz_s {x y : Int32} (h : nz .char x = some y) : x = y ∧ narrow .char (.int y) = .int y := by
  unfold nz at h
  split at h
  · rename_i hb
    have e := Option.some.inj h
    subst e
    exact ⟨rfl, congrArg Value.int hb⟩
  · cases h
def cpyt (f : Nat → Int32) (n0 : Nat) (g : Nat → Int32) (n1 : Nat) (sp dp n : Int32) : Option (Nat → Int32) :=
  if ¬ sp < 0 ∧ ¬ dp < 0 ∧ ¬ n < 0 ∧ sp.toNatClampNeg + n.toNatClampNeg ≤ n0 ∧ dp.toNatClampNeg + n.toNatClampNeg ≤ n1 ∧ (List.range n.toNatClampNeg).all (fun i => fits .byte (.int (f (sp.toNatClampNeg + i)))) = true then some (va_cpy f g sp.toNatClampNeg dp.toNatClampNeg n.toNatClampNeg) else none
theorem cpyt_s {f g h0 : Nat → Int32} {n0 n1 : Nat} {sp dp n : Int32} (h : cpyt f n0 g n1 sp dp n = some h0) : ¬ sp < 0 ∧ ¬ dp < 0 ∧ ¬ n < 0 ∧ sp.toNatClampNeg + n.toNatClampNeg ≤ n0 ∧ dp.toNatClampNeg + n.toNatClampNeg ≤ n1 ∧ (∀ i : Nat, i < n.toNatClampNeg → fits .byte (.int (f (sp.toNatClampNeg + i))) = true) ∧ va_cpy f g sp.toNatClampNeg dp.toNatClampNeg n.toNatClampNeg = h0 := by
  unfold cpyt at h
  split at h
  · rename_i hb
    obtain ⟨h1, h2, h3, h4, h5, h6⟩ := hb
    exact ⟨h1, h2, h3, h4, h5, fun i hi => List.all_eq_true.mp h6 i (List.mem_range.mpr hi), Option.some.inj h⟩
  · cases h
def wa1 {A1 : Type} (c s : Nat) (o : Option (A1 × Nat × Nat)) : Option (A1 × Nat × Nat) := o.bind fun q => some (q.1, c + q.2.1, s + q.2.2)
theorem wa1_s {A1 : Type} {c s : Nat} {o : Option (A1 × Nat × Nat)} {a1 : A1} {mc ms : Nat} (h : wa1 c s o = some (a1, mc, ms)) : ∃ mc1 ms1 : Nat, o = some (a1, mc1, ms1) ∧ mc = c + mc1 ∧ ms = s + ms1 := by
  unfold wa1 at h
  cases o with
  | none => cases h
  | some q =>
    have e := Option.some.inj h
    simp only [Prod.mk.injEq] at e
    obtain ⟨rfl, rfl, rfl⟩ := e
    exact ⟨q.2.1, q.2.2, rfl, rfl, rfl⟩
def wa2 {A1 A2 : Type} (c s : Nat) (o : Option (A1 × A2 × Nat × Nat)) : Option (A1 × A2 × Nat × Nat) := o.bind fun q => some (q.1, q.2.1, c + q.2.2.1, s + q.2.2.2)
theorem wa2_s {A1 A2 : Type} {c s : Nat} {o : Option (A1 × A2 × Nat × Nat)} {a1 : A1} {a2 : A2} {mc ms : Nat} (h : wa2 c s o = some (a1, a2, mc, ms)) : ∃ mc1 ms1 : Nat, o = some (a1, a2, mc1, ms1) ∧ mc = c + mc1 ∧ ms = s + ms1 := by
  unfold wa2 at h
  cases o with
  | none => cases h
  | some q =>
    have e := Option.some.inj h
    simp only [Prod.mk.injEq] at e
    obtain ⟨rfl, rfl, rfl, rfl⟩ := e
    exact ⟨q.2.2.1, q.2.2.2, rfl, rfl, rfl⟩
def wa3 {A1 A2 A3 : Type} (c s : Nat) (o : Option (A1 × A2 × A3 × Nat × Nat)) : Option (A1 × A2 × A3 × Nat × Nat) := o.bind fun q => some (q.1, q.2.1, q.2.2.1, c + q.2.2.2.1, s + q.2.2.2.2)
theorem wa3_s {A1 A2 A3 : Type} {c s : Nat} {o : Option (A1 × A2 × A3 × Nat × Nat)} {a1 : A1} {a2 : A2} {a3 : A3} {mc ms : Nat} (h : wa3 c s o = some (a1, a2, a3, mc, ms)) : ∃ mc1 ms1 : Nat, o = some (a1, a2, a3, mc1, ms1) ∧ mc = c + mc1 ∧ ms = s + ms1 := by
  unfold wa3 at h
  cases o with
  | none => cases h
  | some q =>
    have e := Option.some.inj h
    simp only [Prod.mk.injEq] at e
    obtain ⟨rfl, rfl, rfl, rfl, rfl⟩ := e
    exact ⟨q.2.2.2.1, q.2.2.2.2, rfl, rfl, rfl⟩
def wa4 {A1 A2 A3 A4 : Type} (c s : Nat) (o : Option (A1 × A2 × A3 × A4 × Nat × Nat)) : Option (A1 × A2 × A3 × A4 × Nat × Nat) := o.bind fun q => some (q.1, q.2.1, q.2.2.1, q.2.2.2.1, c + q.2.2.2.2.1, s + q.2.2.2.2.2)
theorem wa4_s {A1 A2 A3 A4 : Type} {c s : Nat} {o : Option (A1 × A2 × A3 × A4 × Nat × Nat)} {a1 : A1} {a2 : A2} {a3 : A3} {a4 : A4} {mc ms : Nat} (h : wa4 c s o = some (a1, a2, a3, a4, mc, ms)) : ∃ mc1 ms1 : Nat, o = some (a1, a2, a3, a4, mc1, ms1) ∧ mc = c + mc1 ∧ ms = s + ms1 := by
  unfold wa4 at h
  cases o with
  | none => cases h
  | some q =>
    have e := Option.some.inj h
    simp only [Prod.mk.injEq] at e
    obtain ⟨rfl, rfl, rfl, rfl, rfl, rfl⟩ := e
    exact ⟨q.2.2.2.2.1, q.2.2.2.2.2, rfl, rfl, rfl⟩
def wa5 {A1 A2 A3 A4 A5 : Type} (c s : Nat) (o : Option (A1 × A2 × A3 × A4 × A5 × Nat × Nat)) : Option (A1 × A2 × A3 × A4 × A5 × Nat × Nat) := o.bind fun q => some (q.1, q.2.1, q.2.2.1, q.2.2.2.1, q.2.2.2.2.1, c + q.2.2.2.2.2.1, s + q.2.2.2.2.2.2)
theorem wa5_s {A1 A2 A3 A4 A5 : Type} {c s : Nat} {o : Option (A1 × A2 × A3 × A4 × A5 × Nat × Nat)} {a1 : A1} {a2 : A2} {a3 : A3} {a4 : A4} {a5 : A5} {mc ms : Nat} (h : wa5 c s o = some (a1, a2, a3, a4, a5, mc, ms)) : ∃ mc1 ms1 : Nat, o = some (a1, a2, a3, a4, a5, mc1, ms1) ∧ mc = c + mc1 ∧ ms = s + ms1 := by
  unfold wa5 at h
  cases o with
  | none => cases h
  | some q =>
    have e := Option.some.inj h
    simp only [Prod.mk.injEq] at e
    obtain ⟨rfl, rfl, rfl, rfl, rfl, rfl, rfl⟩ := e
    exact ⟨q.2.2.2.2.2.1, q.2.2.2.2.2.2, rfl, rfl, rfl⟩
/-- a text that stands in the heap from the start, and is never written -/
def StrK (sa sv n : Nat) (f : Nat → Int32) (A : Nat → Prop) (U : State) (H : Heap) : Prop := va_O "java/lang/String" sa A U H ∧ va_OF "java/lang/String" "value" "[B" (.ref sv) sa A U H ∧ va_OF "java/lang/String" "coder" "B" (.int 0) sa A U H ∧ va_T .byte sv n (fun j => .int (f j)) A U H
theorem StrK.moved {sa sv n : Nat} {f : Nat → Int32} {A : Nat → Prop} {u U : State} {H : Heap} (hvm : u.vm.Alike U.vm) (h : StrK sa sv n f A u H) : StrK sa sv n f A U H := ⟨h.1.moved hvm, h.2.1.moved hvm, h.2.2.1.moved hvm, h.2.2.2.moved hvm⟩
theorem StrK.kept {sa sv n : Nat} {f : Nat → Int32} {A : Nat → Prop} {U : State} {H H1 : Heap} (h : StrK sa sv n f A U H) (hq : ∀ a : Nat, a < H.size → ¬ A a → H1[a]? = H[a]?) : StrK sa sv n f A U H1 := ⟨h.1.kept hq, h.2.1.kept hq, h.2.2.1.kept hq, h.2.2.2.kept hq⟩
theorem StrK.narrow {sa sv n : Nat} {f : Nat → Int32} {A B : Nat → Prop} {U : State} {H : Heap} (h : StrK sa sv n f A U H) (hAB : ∀ q, B q → A q) : StrK sa sv n f B U H := ⟨h.1.narrow hAB, h.2.1.narrow hAB, h.2.2.1.narrow hAB, h.2.2.2.narrow hAB⟩
theorem StrK_at {sa sv n : Nat} {f : Nat → Int32} {A B : Nat → Prop} {s U : State} {H : Heap} {locs : List Loc} (h : StrK sa sv n f A s s.heap) (hS : va_S A s.heap H locs) (hF : ∀ q, B q → A q) (hU : U.heap = H) (hW : s.WarmedH U.vm) : StrK sa sv n f B U U.heap := by
  rw [hU]
  exact ((h.kept hS.2.1).moved hW.alike).narrow hF
def ktx0 (j : Nat) : Int32 := ([44, 32] : List Int32).getD j 0
def ktx1 (j : Nat) : Int32 := ([112, 117, 116, 32] : List Int32).getD j 0
def ktx2 (j : Nat) : Int32 := ([116, 97, 107, 101, 32] : List Int32).getD j 0
def EN (A : Nat → Prop) (U : State) (H : Heap) : Prop := va_Z "java/lang/String" "COMPACT_STRINGS" "Z" (.int 1) A U H ∧ (∃ d : Nat, va_Z "java/lang/Integer" "DigitOnes" "[B" (.ref d) A U H ∧ va_T .byte d 100 (fun j => .int (dgO j)) A U H) ∧ (∃ d : Nat, va_Z "java/lang/Integer" "DigitTens" "[B" (.ref d) A U H ∧ va_T .byte d 100 (fun j => .int (dgT j)) A U H) ∧ va_Zq "jdk/internal/util/Preconditions" "SIOOBE_FORMATTER" "Ljava/util/function/BiFunction;" A U H ∧ (∃ sa sv : Nat, vk_R "ReportCauses" 186 ", " sa U ∧ StrK sa sv 2 ktx0 A U H) ∧ (∃ sa sv : Nat, vk_R "ReportCauses$Changes" 36 "put " sa U ∧ StrK sa sv 4 ktx1 A U H) ∧ (∃ sa sv : Nat, vk_R "ReportCauses$Changes" 38 "take " sa U ∧ StrK sa sv 5 ktx2 A U H)
theorem EN.go {A B : Nat → Prop} {u U : State} {H H1 : Heap} (h : EN A u H) (hvm : u.vm.Alike U.vm) (hR : ∀ own k tx a, vk_R own k tx a u → vk_R own k tx a U) (hq : ∀ a : Nat, a < H.size → ¬ A a → H1[a]? = H[a]?) (hAB : ∀ q, B q → A q) : EN B U H1 := by
  obtain ⟨h0, ⟨d1, h1, h2⟩, ⟨d2, h3, h4⟩, h5, ⟨a0, v0, r0, k0⟩, ⟨a1, v1, r1, k1⟩, ⟨a2, v2, r2, k2⟩⟩ := h
  exact ⟨((h0.kept hq).moved hvm).narrow hAB, ⟨d1, ((h1.kept hq).moved hvm).narrow hAB, ((h2.kept hq).moved hvm).narrow hAB⟩, ⟨d2, ((h3.kept hq).moved hvm).narrow hAB, ((h4.kept hq).moved hvm).narrow hAB⟩, ((h5.kept hq).moved hvm).narrow hAB, ⟨a0, v0, hR _ _ _ _ r0, ((k0.kept hq).moved hvm).narrow hAB⟩, ⟨a1, v1, hR _ _ _ _ r1, ((k1.kept hq).moved hvm).narrow hAB⟩, ⟨a2, v2, hR _ _ _ _ r2, ((k2.kept hq).moved hvm).narrow hAB⟩⟩
theorem EN_at {A B : Nat → Prop} {s U : State} {H : Heap} {locs : List Loc} (h : EN A s s.heap) (hS : va_S A s.heap H locs) (hF : ∀ q, B q → A q) (hU : U.heap = H) (hW : s.WarmedH U.vm) : EN B U U.heap := by
  rw [hU]
  exact h.go hW.alike (fun _ _ _ _ r => r.warm hW) hS.2.1 hF
theorem EN_same {A : Nat → Prop} {u U : State} {H : Heap} (h : EN A u H) (hv : U.vm = u.vm) (ha : u.vm.Alike U.vm) : EN A U H := h.go ha (fun _ _ _ _ r => r.same hv) (fun _ _ _ => rfl) (fun _ h => h)
def PrE0 (D : va_G) (tys : List (ClassId × FieldType)) (sz : Nat) (ws : va_W) (U : State) : Prop := Pr D tys sz ws U ∧ EN (va_A ws sz) U U.heap
def PrE1 (D : va_G) (tys : List (ClassId × FieldType)) (sz : Nat) (ws : va_W) (sa sv n : Nat) (f : Nat → Int32) (U : State) : Prop := Pr D tys sz ws U ∧ EN (va_A ws sz) U U.heap ∧ StrK sa sv n f (va_A ws sz) U U.heap
theorem PrE0_blind {D : va_G} {tys : List (ClassId × FieldType)} {sz : Nat} {ws : va_W} {av : List Value} : FrameBlind (va_Pc av (PrE0 D tys sz ws)) := fun a U g mk q => by
  obtain ⟨q0, q1, q2⟩ := q
  exact ⟨q0, (Pr_blind (av := av) a U g mk ⟨q0, q1⟩).2, EN_same (u := U) (U := U.calling g mk a) q2 rfl (Vm.Alike.refl U.vm)⟩
theorem PrE1_blind {D : va_G} {tys : List (ClassId × FieldType)} {sz : Nat} {ws : va_W} {sa sv n : Nat} {f : Nat → Int32} {av : List Value} : FrameBlind (va_Pc av (PrE1 D tys sz ws sa sv n f)) := fun a U g mk q => by
  obtain ⟨q0, q1, q2, q3⟩ := q
  exact ⟨q0, (Pr_blind (av := av) a U g mk ⟨q0, q1⟩).2, EN_same (u := U) (U := U.calling g mk a) q2 rfl (Vm.Alike.refl U.vm), StrK.moved (u := U) (U := U.calling g mk a) (Vm.Alike.refl U.vm) q3⟩
abbrev QVd (D : va_G) (A : Nat → Prop) (ws : Nat → va_W) : Array Value → State → Outcome → State → Prop := va_Qv (fun (_ : Nat) => True) (fun u t => Po D A (ws u) t) A
abbrev QId (D : va_G) (A : Nat → Prop) (r0 : Int32) (ws : Nat → va_W) : Array Value → State → Outcome → State → Prop := va_Qi (fun (r : Int32) (_ : Nat) => r = r0) (fun u t => Po D A (ws u) t) A
abbrev QRd (D : va_G) (A : Nat → Prop) (ra : Nat) (ws : Nat → va_W) : Array Value → State → Outcome → State → Prop := va_Qr (fun (_ : Nat) => True) (fun u a t => a = ra ∧ Po D A (ws u) t) A
section OwnRows2
variable {p : Program} {l : Launch} {e : Env} {R : Room} {s : State} {m : MethodId} {args : Array Value} {below : List Frame} {meth : Method} {c : Code} {H : Heap} {locs : List Loc} {cells slots : Nat} {Q : State → Prop} {pc : Nat} {ls : Array Slot} {rest : List Value} {cc : ByteArray} {D : va_G} {A : Nat → Prop} {H0 : Heap}
theorem k_retvd {ws : Nat → va_W} {u : Nat} (hx : p.tables.exec = Jvm.exec) (hb : c.code = cc) (hr : meth.sig.returnType = none) (hlocks : meth.locks = false) (hP : va_P D vwCl (ws u) H) (hD : va_D A (ws u)) (hS : va_S A s.heap H locs) (hdg : decode cc pc = .ok (.return_, 1)) : W p l e R s m args below meth c H locs cells slots (MQ below (QVd D A ws) args s cells slots A) (F0 m pc ls []) :=
  W.vret hx hb hr (fun t ht hW => ⟨⟨u, rfl, trivial, by rw [ht]; exact hP, hD⟩, hS.F ht⟩) hS.2.2 hdg hlocks
theorem k_retid {ws : Nat → va_W} {u : Nat} {v : Int32} (hx : p.tables.exec = Jvm.exec) (hb : c.code = cc) (hr : meth.sig.returnType = some .int) (hlocks : meth.locks = false) (hP : va_P D vwCl (ws u) H) (hD : va_D A (ws u)) (hS : va_S A s.heap H locs) (hdg : decode cc pc = .ok (.ireturn, 1)) : W p l e R s m args below meth c H locs cells slots (MQ below (QId D A v ws) args s cells slots A) (F0 m pc ls [.int v]) :=
  W.iret (v := v) hx hb hr (fun t ht hW => ⟨⟨v, u, rfl, rfl, by rw [ht]; exact hP, hD⟩, hS.F ht⟩) hS.2.2 hdg hlocks
theorem k_retrd {ws : Nat → va_W} {u ra : Nat} {C : String} (hx : p.tables.exec = Jvm.exec) (hb : c.code = cc) (hr : meth.sig.returnType = some (.object C)) (hlocks : meth.locks = false) (hP : va_P D vwCl (ws u) H) (hD : va_D A (ws u)) (hS : va_S A s.heap H locs) (hdg : decode cc pc = .ok (.areturn, 1)) : W p l e R s m args below meth c H locs cells slots (MQ below (QRd D A ra ws) args s cells slots A) (F0 m pc ls [.ref ra]) :=
  W.aret (v := .ref ra) hx hb hr (Or.inl ⟨_, rfl⟩) (Or.inr ⟨_, rfl⟩) (fun t ht hW => ⟨⟨u, ra, rfl, trivial, rfl, by rw [ht]; exact hP, hD⟩, hS.F ht⟩) hS.2.2 hdg hlocks
variable {ws wc wr : va_W} {w1 ws' : Nat → va_W} {st0 : List Value} {a : Array Value} {r0 : Int32} {mc ms ra : Nat}
theorem k_callvdc (hr : va_Run p l e R s m args below meth c H locs cells slots mc ms (F0 m pc ls st0) rest (QVd D (va_A wc H.size) w1 a) (va_A wc H.size)) (hP : va_P D vwCl ws H) (hD : va_D A ws) (hS : va_S A H0 H locs) (hA : ∀ q, H0.size ≤ q → A q) (isC isR pm : List Nat) (hC : isC.map (fun i => ws[i]?) = wc.map some) (hR : isR.map (fun i => ws[i]?) = wr.map some) (hn : va_nd isR = true) (hdis : ∀ i ∈ isR, i ∉ isC) (hpn : va_nd pm = true) (hpm : ∀ u, pm.map (fun i => (wr ++ w1 u)[i]?) = (ws' u).map some)
    (kk : ∀ (u : Nat) (H1 : Heap) (locs1 : List Loc), va_P D vwCl (ws' u) H1 → va_D A (ws' u) → va_S A H0 H1 locs1 → W p l e R s m args below meth c H1 locs1 (cells + mc) (slots + ms) Q (F0 m (pc + 3) ls rest)) : W p l e R s m args below meth c H locs cells slots Q (F0 m pc ls st0) := by
  have hF := va_free (wc := wc) hD hS hA isC hC
  refine va_callv hr hS (fun q _ h => hF q h) hF (fun u t H1 locs1 ht hvm hw hB hz1 hk1 hS1 => ?_)
  obtain ⟨hP1, hD1⟩ := hB
  rw [ht] at hP1
  obtain ⟨hP2, hD2⟩ := va_join (wr := wr) (w1 := w1 u) hP hD isC isR hC hR hn hdis hk1 hF hP1 hD1
  exact kk u H1 locs1 (hP2.sub pm (fm_of (hpm u))) (hD2.sub pm hpn (hpm u)) hS1
theorem k_callrdc (hr : va_Run p l e R s m args below meth c H locs cells slots mc ms (F0 m pc ls st0) rest (QRd D (va_A wc H.size) ra w1 a) (va_A wc H.size)) (hP : va_P D vwCl ws H) (hD : va_D A ws) (hS : va_S A H0 H locs) (hA : ∀ q, H0.size ≤ q → A q) (isC isR pm : List Nat) (hC : isC.map (fun i => ws[i]?) = wc.map some) (hR : isR.map (fun i => ws[i]?) = wr.map some) (hn : va_nd isR = true) (hdis : ∀ i ∈ isR, i ∉ isC) (hpn : va_nd pm = true) (hpm : ∀ u, pm.map (fun i => (wr ++ w1 u)[i]?) = (ws' u).map some)
    (kk : ∀ (u : Nat) (H1 : Heap) (locs1 : List Loc), va_P D vwCl (ws' u) H1 → va_D A (ws' u) → va_S A H0 H1 locs1 → W p l e R s m args below meth c H1 locs1 (cells + mc) (slots + ms) Q (F0 m (pc + 3) ls (.ref ra :: rest))) : W p l e R s m args below meth c H locs cells slots Q (F0 m pc ls st0) := by
  have hF := va_free (wc := wc) hD hS hA isC hC
  refine va_callr hr hS (fun q _ h => hF q h) hF (fun u a2 t H1 locs1 ht hvm hw hB hz1 hk1 hS1 => ?_)
  obtain ⟨rfl, hP1, hD1⟩ := hB
  rw [ht] at hP1
  obtain ⟨hP2, hD2⟩ := va_join (wr := wr) (w1 := w1 u) hP hD isC isR hC hR hn hdis hk1 hF hP1 hD1
  exact kk u H1 locs1 (hP2.sub pm (fm_of (hpm u))) (hD2.sub pm hpn (hpm u)) hS1
theorem k_callv0 (hr : va_Run p l e R s m args below meth c H locs cells slots 0 0 (F0 m pc ls st0) rest (QV D (va_A [] H.size) [] a) (va_A [] H.size)) (hP : va_P D vwCl ws H) (hD : va_D A ws) (hS : va_S A H0 H locs) (hA : ∀ q, H0.size ≤ q → A q)
    (kk : ∀ (H1 : Heap) (locs1 : List Loc), va_P D vwCl ws H1 → va_D A ws → va_S A H0 H1 locs1 → W p l e R s m args below meth c H1 locs1 cells slots Q (F0 m (pc + 3) ls rest)) : W p l e R s m args below meth c H locs cells slots Q (F0 m pc ls st0) := by
  have hF := va_free (wc := []) hD hS hA [] rfl
  refine va_callv hr hS (fun q _ h => hF q h) hF (fun u t H1 locs1 ht hvm hw hB hz1 hk1 hS1 => ?_)
  refine kk H1 locs1 (hP.kept fun k q hq => hk1 q.1 (hP k q hq).lt ?_) hD hS1
  intro h
  rcases h with ⟨k2, e2, h2⟩ | h2
  · simp at h2
  · exact absurd (hP k q hq).lt (by omega)
end OwnRows2
theorem inK0b : ∀ w ∈ u_ws RK0 TK0 10, w ∈ ALLW2 := fun w h => up (inK0 w h)
theorem inK1b : ∀ w ∈ u_ws RK1 TK1 4, w ∈ ALLW2 := fun w h => up (inK1 w h)
theorem inK2b : ∀ w ∈ u_ws RK2 TK2 5, w ∈ ALLW2 := fun w h => up (inK2 w h)
theorem inK3b : ∀ w ∈ u_ws RK3 TK3 4, w ∈ ALLW2 := fun w h => up (inK3 w h)
theorem inK4b : ∀ w ∈ u_ws RK4 TK4 3, w ∈ ALLW2 := fun w h => up (inK4 w h)
theorem inK5b : ∀ w ∈ u_ws RK5 TK5 23, w ∈ ALLW2 := fun w h => up (inK5 w h)
theorem inK6b : ∀ w ∈ u_ws RK6 TK6 4, w ∈ ALLW2 := fun w h => up (inK6 w h)
abbrev wS (sa : Nat) (cI cZ cB cC : ClassId) (sco : Int32) (sml : Int32) (sct : Int32) (s_ad : Nat) (sn : Nat) (sb : Nat → Int32) : va_W := [(sa, .inr (6, [.ref s_ad, .int sco, .int sml, .int sct])), (s_ad, .inl (cB, sn, .inl sb))]
abbrev wB (ba : Nat) (cI cZ cB cC : ClassId) (bn : Nat) (bf : Nat → Int32) : va_W := [(ba, .inl (cB, bn, .inl bf))]
abbrev wCS (ca ca1 ca2 ca3 sa : Nat) (cI cZ cB cC : ClassId) (cn : Int32) (cpu : Nat → Int32) (cco : Nat → Int32) (cwe : Nat → Int32) (sco : Int32) (sml : Int32) (sct : Int32) (s_ad : Nat) (sn : Nat) (sb : Nat → Int32) : va_W := [(ca, .inr (3, [.ref ca1, .ref ca2, .ref ca3, .int cn])), (ca1, .inl (cZ, 12, .inl cpu)), (ca2, .inl (cI, 12, .inl cco)), (ca3, .inl (cI, 12, .inl cwe)), (sa, .inr (6, [.ref s_ad, .int sco, .int sml, .int sct])), (s_ad, .inl (cB, sn, .inl sb))]
abbrev wMS (oa tra tra1 tra2 tra3 tia tia1 tia2 tia3 rua rua1 rua2 rua3 rua4 cha cha1 cha2 cha3 foa foa1 foa2 sba : Nat) (cI cZ cB cC : ClassId) (ocs : Int32) (oal : Int32) (olt : Int32) (ols : Int32) (trso : Int32) (trob : Nat → Int32) (trme : Nat → Int32) (trwi : Nat → Int32) (tiso : Int32) (tiob : Nat → Int32) (time : Nat → Int32) (tiwi : Nat → Int32) (run : Int32) (ruki : Nat → Int32) (ruta : Nat → Int32) (rupr : Nat → Int32) (runu : Nat → Int32) (chn : Int32) (chpu : Nat → Int32) (chco : Nat → Int32) (chwe : Nat → Int32) (fon : Int32) (fose : Nat → Int32) (fosu : Nat → Int32) (sbco : Int32) (sbml : Int32) (sbct : Int32) (sb_ad : Nat) (sbn : Nat) (sbb : Nat → Int32) : va_W := [(oa, .inr (0, [.ref tra, .ref tia, .ref rua, .ref cha, .ref foa, .ref sba, .int ocs, .int oal, .int olt, .int ols])), (tra, .inr (1, [.ref tra1, .ref tra2, .ref tra3, .int trso])), (tra1, .inl (cI, 72, .inl trob)), (tra2, .inl (cI, 12, .inl trme)), (tra3, .inl (cI, 12, .inl trwi)), (tia, .inr (1, [.ref tia1, .ref tia2, .ref tia3, .int tiso])), (tia1, .inl (cI, 72, .inl tiob)), (tia2, .inl (cI, 12, .inl time)), (tia3, .inl (cI, 12, .inl tiwi)), (rua, .inr (2, [.ref rua1, .ref rua2, .ref rua3, .ref rua4, .int run])), (rua1, .inl (cI, 10, .inl ruki)), (rua2, .inl (cI, 10, .inl ruta)), (rua3, .inl (cI, 10, .inl rupr)), (rua4, .inl (cI, 10, .inl runu)), (cha, .inr (3, [.ref cha1, .ref cha2, .ref cha3, .int chn])), (cha1, .inl (cZ, 12, .inl chpu)), (cha2, .inl (cI, 12, .inl chco)), (cha3, .inl (cI, 12, .inl chwe)), (foa, .inr (4, [.ref foa1, .ref foa2, .int fon])), (foa1, .inl (cI, 30, .inl fose)), (foa2, .inl (cI, 30, .inl fosu)), (sba, .inr (6, [.ref sb_ad, .int sbco, .int sbml, .int sbct])), (sb_ad, .inl (cB, sbn, .inl sbb))]
abbrev wzJ7_newLength : List Cond := Cond.code yJ7_newLength cJ7_newLength 4 (some .int) :: ALLW2
abbrev wzJ1_isLatin1 : List Cond := Cond.code yJ1_isLatin1 cJ1_isLatin1 1 (some .boolean) :: ALLW2
abbrev wzJ1_newCapacity : List Cond := Cond.code yJ1_newCapacity cJ1_newCapacity 6 (some .int) :: ALLW2
abbrev wzJ1_ensureCapacityInternal : List Cond := Cond.code yJ1_ensureCapacityInternal cJ1_ensureCapacityInternal 3 none :: ALLW2
abbrev wzJ1_setLength : List Cond := Cond.code yJ1_setLength cJ1_setLength 2 none :: ALLW2
abbrev wzK6_setLength : List Cond := Cond.code yK6_setLength cK6_setLength 2 none :: ALLW2
abbrev wzJ1_length : List Cond := Cond.code yJ1_length cJ1_length 1 (some .int) :: ALLW2
abbrev wzK6_length : List Cond := Cond.code yK6_length cK6_length 1 (some .int) :: ALLW2
abbrev wzJ8_checkIndex : List Cond := Cond.code yJ8_checkIndex cJ8_checkIndex 3 (some .int) :: ALLW2
abbrev wzJ3_checkIndex : List Cond := Cond.code yJ3_checkIndex cJ3_checkIndex 2 none :: ALLW2
abbrev wzJ1_charAt : List Cond := Cond.code yJ1_charAt cJ1_charAt 5 (some .char) :: ALLW2
abbrev wzK6_charAt : List Cond := Cond.code yK6_charAt cK6_charAt 2 (some .char) :: ALLW2
abbrev wzJ3_coder : List Cond := Cond.code yJ3_coder cJ3_coder 1 (some .byte) :: ALLW2
abbrev wzJ3_length : List Cond := Cond.code yJ3_length cJ3_length 1 (some .int) :: ALLW2
abbrev wzJ3_getBytes : List Cond := Cond.code yJ3_getBytes cJ3_getBytes 4 none :: ALLW2
abbrev wzJ1_inflateIfNeededFor : List Cond := Cond.code yJ1_inflateIfNeededFor cJ1_inflateIfNeededFor 2 none :: ALLW2
abbrev wzJ1_putStringAt : List Cond := Cond.code yJ1_putStringAt cJ1_putStringAt 3 none :: ALLW2
abbrev wzJ2_getChars : List Cond := Cond.code yJ2_getChars cJ2_getChars 7 (some .int) :: ALLW2
abbrev wzJ1_append_LStringLAbstractStringBuilder : List Cond := Cond.code yJ1_append_LStringLAbstractStringBuilder cJ1_append_LStringLAbstractStringBuilder 3 (some (.object "java/lang/AbstractStringBuilder")) :: ALLW2
abbrev wzK6_append_LStringLStringBuilder : List Cond := Cond.code yK6_append_LStringLStringBuilder cK6_append_LStringLStringBuilder 2 (some (.object "java/lang/StringBuilder")) :: ALLW2
abbrev wzJ1_append_ILAbstractStringBuilder : List Cond := Cond.code yJ1_append_ILAbstractStringBuilder cJ1_append_ILAbstractStringBuilder 4 (some (.object "java/lang/AbstractStringBuilder")) :: ALLW2
abbrev wzK6_append_ILStringBuilder : List Cond := Cond.code yK6_append_ILStringBuilder cK6_append_ILStringBuilder 2 (some (.object "java/lang/StringBuilder")) :: ALLW2
abbrev wzJ1_append_CLAbstractStringBuilder : List Cond := Cond.code yJ1_append_CLAbstractStringBuilder cJ1_append_CLAbstractStringBuilder 2 (some (.object "java/lang/AbstractStringBuilder")) :: ALLW2
abbrev wzK6_append_CLStringBuilder : List Cond := Cond.code yK6_append_CLStringBuilder cK6_append_CLStringBuilder 2 (some (.object "java/lang/StringBuilder")) :: ALLW2
abbrev wzK3_tell : List Cond := Cond.code yK3_tell cK3_tell 3 none :: ALLW2
abbrev wzK0_sentence : List Cond := Cond.code yK0_sentence cK0_sentence 4 (some .int) :: ALLW2
abbrev wzK0_letter : List Cond := Cond.code yK0_letter cK0_letter 2 (some .int) :: ALLW2
abbrev wzJ6_copyOf : List Cond := Cond.code yJ6_copyOf cJ6_copyOf 3 (some (.array .byte)) :: ALLW2
theorem gzJ7_newLength : GoodIn ALLW2 wzJ7_newLength := gdC2 wdt2_222
theorem gzJ1_isLatin1 : GoodIn ALLW2 wzJ1_isLatin1 := gdC2 wdt3_7
theorem gzJ1_newCapacity : GoodIn ALLW2 wzJ1_newCapacity := gdC2 wdt2_219
theorem gzJ1_ensureCapacityInternal : GoodIn ALLW2 wzJ1_ensureCapacityInternal := gdC2 wdt2_215
theorem gzJ1_setLength : GoodIn ALLW2 wzJ1_setLength := gdC2 wdt2_211
theorem gzK6_setLength : GoodIn ALLW2 wzK6_setLength := gdC2 wdt2_208
theorem gzJ1_length : GoodIn ALLW2 wzJ1_length := gdC2 wdt3_27
theorem gzK6_length : GoodIn ALLW2 wzK6_length := gdC2 wdt3_24
theorem gzJ8_checkIndex : GoodIn ALLW2 wzJ8_checkIndex := gdC2 wdt3_162
theorem gzJ3_checkIndex : GoodIn ALLW2 wzJ3_checkIndex := gdC2 wdt3_159
theorem gzJ1_charAt : GoodIn ALLW2 wzJ1_charAt := gdC2 wdt3_174
theorem gzK6_charAt : GoodIn ALLW2 wzK6_charAt := gdC2 wdt3_171
theorem gzJ3_coder : GoodIn ALLW2 wzJ3_coder := gdC2 wdt3_73
theorem gzJ3_length : GoodIn ALLW2 wzJ3_length := gdC2 wdt3_69
theorem gzJ3_getBytes : GoodIn ALLW2 wzJ3_getBytes := gdC2 wdt3_106
theorem gzJ1_inflateIfNeededFor : GoodIn ALLW2 wzJ1_inflateIfNeededFor := gdC2 wdt3_82
theorem gzJ1_putStringAt : GoodIn ALLW2 wzJ1_putStringAt := gdC2 wdt3_78
theorem gzJ2_getChars : GoodIn ALLW2 wzJ2_getChars := gdC2 wdt3_128
theorem gzJ1_append_LStringLAbstractStringBuilder : GoodIn ALLW2 wzJ1_append_LStringLAbstractStringBuilder := gdC2 wdt3_35
theorem gzK6_append_LStringLStringBuilder : GoodIn ALLW2 wzK6_append_LStringLStringBuilder := gdC2 wdt3_32
theorem gzJ1_append_ILAbstractStringBuilder : GoodIn ALLW2 wzJ1_append_ILAbstractStringBuilder := gdC2 wdt3_122
theorem gzK6_append_ILStringBuilder : GoodIn ALLW2 wzK6_append_ILStringBuilder := gdC2 wdt3_119
theorem gzJ1_append_CLAbstractStringBuilder : GoodIn ALLW2 wzJ1_append_CLAbstractStringBuilder := gdC2 wdt3_147
theorem gzK6_append_CLStringBuilder : GoodIn ALLW2 wzK6_append_CLStringBuilder := gdC2 wdt3_144
theorem gzK3_tell : GoodIn ALLW2 wzK3_tell := gdC2 wdt3_112
theorem gzK0_sentence : GoodIn ALLW2 wzK0_sentence := gdC2 wdt2_204
theorem gzK0_letter : GoodIn ALLW2 wzK0_letter := gdC2 wdt3_167
theorem gzJ6_copyOf : GoodIn ALLW2 wzJ6_copyOf := gdC2 wdt2_233
