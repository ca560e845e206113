/-! own rows: the words of the models (Option), and the kit's calls and returns wrapped for worlds whose cells stay where they are -/
def bd0 {G : Type} (o : Option Unit) (f : Option G) : Option G := o.bind fun _ => f
theorem bd0_s {G : Type} {o : Option Unit} {f : Option G} {r : G} (h : bd0 o f = some r) : o = some () ∧ f = some r := by
  unfold bd0 at h
  cases o with
  | none => cases h
  | some a => exact ⟨rfl, h⟩
def bd1 {A1 G : Type} (o : Option (A1)) (f : A1 → Option G) : Option G := o.bind fun q => f q
theorem bd1_s {A1 G : Type} {o : Option (A1)} {f : A1 → Option G} {r : G} (h : bd1 o f = some r) : ∃ a1, o = some a1 ∧ f a1 = some r := by
  unfold bd1 at h
  cases o with
  | none => cases h
  | some q => exact ⟨q, rfl, h⟩
def bd2 {A1 A2 G : Type} (o : Option (A1 × A2)) (f : A1 → A2 → Option G) : Option G := o.bind fun q => f q.1 q.2
theorem bd2_s {A1 A2 G : Type} {o : Option (A1 × A2)} {f : A1 → A2 → Option G} {r : G} (h : bd2 o f = some r) : ∃ a1 a2, o = some (a1, a2) ∧ f a1 a2 = some r := by
  unfold bd2 at h
  cases o with
  | none => cases h
  | some q => exact ⟨q.1, q.2, rfl, h⟩
def bd3 {A1 A2 A3 G : Type} (o : Option (A1 × A2 × A3)) (f : A1 → A2 → A3 → Option G) : Option G := o.bind fun q => f q.1 q.2.1 q.2.2
theorem bd3_s {A1 A2 A3 G : Type} {o : Option (A1 × A2 × A3)} {f : A1 → A2 → A3 → Option G} {r : G} (h : bd3 o f = some r) : ∃ a1 a2 a3, o = some (a1, a2, a3) ∧ f a1 a2 a3 = some r := by
  unfold bd3 at h
  cases o with
  | none => cases h
  | some q => exact ⟨q.1, q.2.1, q.2.2, rfl, h⟩
def bd4 {A1 A2 A3 A4 G : Type} (o : Option (A1 × A2 × A3 × A4)) (f : A1 → A2 → A3 → A4 → Option G) : Option G := o.bind fun q => f q.1 q.2.1 q.2.2.1 q.2.2.2
theorem bd4_s {A1 A2 A3 A4 G : Type} {o : Option (A1 × A2 × A3 × A4)} {f : A1 → A2 → A3 → A4 → Option G} {r : G} (h : bd4 o f = some r) : ∃ a1 a2 a3 a4, o = some (a1, a2, a3, a4) ∧ f a1 a2 a3 a4 = some r := by
  unfold bd4 at h
  cases o with
  | none => cases h
  | some q => exact ⟨q.1, q.2.1, q.2.2.1, q.2.2.2, rfl, h⟩
def bd5 {A1 A2 A3 A4 A5 G : Type} (o : Option (A1 × A2 × A3 × A4 × A5)) (f : A1 → A2 → A3 → A4 → A5 → Option G) : Option G := o.bind fun q => f q.1 q.2.1 q.2.2.1 q.2.2.2.1 q.2.2.2.2
theorem bd5_s {A1 A2 A3 A4 A5 G : Type} {o : Option (A1 × A2 × A3 × A4 × A5)} {f : A1 → A2 → A3 → A4 → A5 → Option G} {r : G} (h : bd5 o f = some r) : ∃ a1 a2 a3 a4 a5, o = some (a1, a2, a3, a4, a5) ∧ f a1 a2 a3 a4 a5 = some r := by
  unfold bd5 at h
  cases o with
  | none => cases h
  | some q => exact ⟨q.1, q.2.1, q.2.2.1, q.2.2.2.1, q.2.2.2.2, rfl, h⟩
def bd6 {A1 A2 A3 A4 A5 A6 G : Type} (o : Option (A1 × A2 × A3 × A4 × A5 × A6)) (f : A1 → A2 → A3 → A4 → A5 → A6 → Option G) : Option G := o.bind fun q => f q.1 q.2.1 q.2.2.1 q.2.2.2.1 q.2.2.2.2.1 q.2.2.2.2.2
theorem bd6_s {A1 A2 A3 A4 A5 A6 G : Type} {o : Option (A1 × A2 × A3 × A4 × A5 × A6)} {f : A1 → A2 → A3 → A4 → A5 → A6 → Option G} {r : G} (h : bd6 o f = some r) : ∃ a1 a2 a3 a4 a5 a6, o = some (a1, a2, a3, a4, a5, a6) ∧ f a1 a2 a3 a4 a5 a6 = some r := by
  unfold bd6 at h
  cases o with
  | none => cases h
  | some q => exact ⟨q.1, q.2.1, q.2.2.1, q.2.2.2.1, q.2.2.2.2.1, q.2.2.2.2.2, rfl, h⟩
def bd7 {A1 A2 A3 A4 A5 A6 A7 G : Type} (o : Option (A1 × A2 × A3 × A4 × A5 × A6 × A7)) (f : A1 → A2 → A3 → A4 → A5 → A6 → A7 → Option G) : Option G := o.bind fun q => f q.1 q.2.1 q.2.2.1 q.2.2.2.1 q.2.2.2.2.1 q.2.2.2.2.2.1 q.2.2.2.2.2.2
theorem bd7_s {A1 A2 A3 A4 A5 A6 A7 G : Type} {o : Option (A1 × A2 × A3 × A4 × A5 × A6 × A7)} {f : A1 → A2 → A3 → A4 → A5 → A6 → A7 → Option G} {r : G} (h : bd7 o f = some r) : ∃ a1 a2 a3 a4 a5 a6 a7, o = some (a1, a2, a3, a4, a5, a6, a7) ∧ f a1 a2 a3 a4 a5 a6 a7 = some r := by
  unfold bd7 at h
  cases o with
  | none => cases h
  | some q => exact ⟨q.1, q.2.1, q.2.2.1, q.2.2.2.1, q.2.2.2.2.1, q.2.2.2.2.2.1, q.2.2.2.2.2.2, rfl, h⟩
def bd8 {A1 A2 A3 A4 A5 A6 A7 A8 G : Type} (o : Option (A1 × A2 × A3 × A4 × A5 × A6 × A7 × A8)) (f : A1 → A2 → A3 → A4 → A5 → A6 → A7 → A8 → Option G) : Option G := o.bind fun q => f q.1 q.2.1 q.2.2.1 q.2.2.2.1 q.2.2.2.2.1 q.2.2.2.2.2.1 q.2.2.2.2.2.2.1 q.2.2.2.2.2.2.2
theorem bd8_s {A1 A2 A3 A4 A5 A6 A7 A8 G : Type} {o : Option (A1 × A2 × A3 × A4 × A5 × A6 × A7 × A8)} {f : A1 → A2 → A3 → A4 → A5 → A6 → A7 → A8 → Option G} {r : G} (h : bd8 o f = some r) : ∃ a1 a2 a3 a4 a5 a6 a7 a8, o = some (a1, a2, a3, a4, a5, a6, a7, a8) ∧ f a1 a2 a3 a4 a5 a6 a7 a8 = some r := by
  unfold bd8 at h
  cases o with
  | none => cases h
  | some q => exact ⟨q.1, q.2.1, q.2.2.1, q.2.2.2.1, q.2.2.2.2.1, q.2.2.2.2.2.1, q.2.2.2.2.2.2.1, q.2.2.2.2.2.2.2, rfl, h⟩
def bd9 {A1 A2 A3 A4 A5 A6 A7 A8 A9 G : Type} (o : Option (A1 × A2 × A3 × A4 × A5 × A6 × A7 × A8 × A9)) (f : A1 → A2 → A3 → A4 → A5 → A6 → A7 → A8 → A9 → Option G) : Option G := o.bind fun q => f q.1 q.2.1 q.2.2.1 q.2.2.2.1 q.2.2.2.2.1 q.2.2.2.2.2.1 q.2.2.2.2.2.2.1 q.2.2.2.2.2.2.2.1 q.2.2.2.2.2.2.2.2
theorem bd9_s {A1 A2 A3 A4 A5 A6 A7 A8 A9 G : Type} {o : Option (A1 × A2 × A3 × A4 × A5 × A6 × A7 × A8 × A9)} {f : A1 → A2 → A3 → A4 → A5 → A6 → A7 → A8 → A9 → Option G} {r : G} (h : bd9 o f = some r) : ∃ a1 a2 a3 a4 a5 a6 a7 a8 a9, o = some (a1, a2, a3, a4, a5, a6, a7, a8, a9) ∧ f a1 a2 a3 a4 a5 a6 a7 a8 a9 = some r := by
  unfold bd9 at h
  cases o with
  | none => cases h
  | some q => exact ⟨q.1, q.2.1, q.2.2.1, q.2.2.2.1, q.2.2.2.2.1, q.2.2.2.2.2.1, q.2.2.2.2.2.2.1, q.2.2.2.2.2.2.2.1, q.2.2.2.2.2.2.2.2, rfl, h⟩
def bd10 {A1 A2 A3 A4 A5 A6 A7 A8 A9 A10 G : Type} (o : Option (A1 × A2 × A3 × A4 × A5 × A6 × A7 × A8 × A9 × A10)) (f : A1 → A2 → A3 → A4 → A5 → A6 → A7 → A8 → A9 → A10 → Option G) : Option G := o.bind fun q => f q.1 q.2.1 q.2.2.1 q.2.2.2.1 q.2.2.2.2.1 q.2.2.2.2.2.1 q.2.2.2.2.2.2.1 q.2.2.2.2.2.2.2.1 q.2.2.2.2.2.2.2.2.1 q.2.2.2.2.2.2.2.2.2
theorem bd10_s {A1 A2 A3 A4 A5 A6 A7 A8 A9 A10 G : Type} {o : Option (A1 × A2 × A3 × A4 × A5 × A6 × A7 × A8 × A9 × A10)} {f : A1 → A2 → A3 → A4 → A5 → A6 → A7 → A8 → A9 → A10 → Option G} {r : G} (h : bd10 o f = some r) : ∃ a1 a2 a3 a4 a5 a6 a7 a8 a9 a10, o = some (a1, a2, a3, a4, a5, a6, a7, a8, a9, a10) ∧ f a1 a2 a3 a4 a5 a6 a7 a8 a9 a10 = some r := by
  unfold bd10 at h
  cases o with
  | none => cases h
  | some q => exact ⟨q.1, q.2.1, q.2.2.1, q.2.2.2.1, q.2.2.2.2.1, q.2.2.2.2.2.1, q.2.2.2.2.2.2.1, q.2.2.2.2.2.2.2.1, q.2.2.2.2.2.2.2.2.1, q.2.2.2.2.2.2.2.2.2, rfl, h⟩
theorem ift {c : Prop} [Decidable c] {A : Type} {a b r : A} (h : (if c then a else b) = r) (hc : c) : a = r := by rw [if_pos hc] at h; exact h
theorem iff_ {c : Prop} [Decidable c] {A : Type} {a b r : A} (h : (if c then a else b) = r) (hc : ¬ c) : b = r := by rw [if_neg hc] at h; exact h
def inB (i : Int32) (n : Nat) : Bool := decide (¬ (i < 0 ∨ n ≤ i.toNatClampNeg))
theorem inB_vp {i : Int32} {n : Nat} (h : inB i n = true) : vp_in i n := of_decide_eq_true (p := ¬ (i < 0 ∨ n ≤ i.toNatClampNeg)) h
theorem inB_of {i : Int32} {n : Nat} (h : vp_in i n) : inB i n = true := decide_eq_true (p := ¬ (i < 0 ∨ n ≤ i.toNatClampNeg)) h
def rd (f : Nat → Int32) (n : Nat) (i : Int32) : Option Int32 := if inB i n = true then some (f i.toNatClampNeg) else none
def wrt (f : Nat → Int32) (n : Nat) (i x : Int32) : Option (Nat → Int32) := if inB i n = true then some (upd f i.toNatClampNeg x) else none
theorem rd_s {f : Nat → Int32} {n : Nat} {i x : Int32} (h : rd f n i = some x) : vp_in i n ∧ f i.toNatClampNeg = x := by
  unfold rd at h
  split at h
  · rename_i hb
    exact ⟨inB_vp hb, Option.some.inj h⟩
  · cases h
theorem wrt_s {f g : Nat → Int32} {n : Nat} {i x : Int32} (h : wrt f n i x = some g) : vp_in i n ∧ upd f i.toNatClampNeg x = g := by
  unfold wrt at h
  split at h
  · rename_i hb
    exact ⟨inB_vp hb, Option.some.inj h⟩
  · cases h
def bz (x : Int32) : Option Int32 := if x = 0 ∨ x = 1 then some x else none
theorem bz_s {x y : Int32} (h : bz x = some y) : x = y ∧ (y = 0 ∨ y = 1) := by
  unfold bz at h
  split at h
  · rename_i hb
    have e := Option.some.inj h
    exact ⟨e, e ▸ hb⟩
  · cases h
theorem bz_n {x : Int32} (h : x = 0 ∨ x = 1) : narrow .boolean (.int x) = .int x := by rcases h with rfl | rfl <;> rfl
theorem bz_f {x : Int32} (h : x = 0 ∨ x = 1) : fits .boolean (.int x) = true := by rcases h with rfl | rfl <;> rfl
def ush (x y : Int32) : Int32 := (x.toUInt32 >>> (y.toUInt32 &&& Int32.toUInt32 31)).toInt32
def i2c (x : Int32) : Int32 := (x.toUInt32 % 65536).toInt32
def i2b (x : Int32) : Int32 := x.toInt8.toInt32
theorem fm_of {is : List Nat} {ws ws' : va_W} (h : is.map (fun i => ws[i]?) = ws'.map some) : is.filterMap (fun i => ws[i]?) = ws' := by
  have e : is.filterMap (fun i => ws[i]?) = (is.map (fun i => ws[i]?)).filterMap id := by rw [List.filterMap_map]; rfl
  rw [e, h, List.filterMap_map]
  show List.filterMap some ws' = ws'
  exact List.filterMap_some
theorem htsA {y : MethodName} {b : ByteArray} {n : Nat} {r : Option FieldType} {args : Array Value} {s : State} (h : ∀ w ∈ (Cond.code y b n r :: ALLW), w.before args s = true) : ∀ w ∈ ALLW, w.before args s = true := fun w hw => h w (List.mem_cons_of_mem _ hw)
theorem allG : GoodIn ALLW ALLW := fun w h => ⟨h, good_of_word (List.mem_filter.mp h).2⟩
theorem gdC {y : MethodName} {b : ByteArray} {n : Nat} {r : Option FieldType} (hc : Cond.code y b n r ∈ ALLW) : GoodIn ALLW (Cond.code y b n r :: ALLW) := fun w h => (List.mem_cons.mp h).elim (fun e => by rw [e]; exact allG _ hc) (allG w)
theorem gdS {own : String} {idx : Nat} {y : MethodName} {ws : List Cond} (h1 : Cond.methodLink own idx y ∈ ALLW) (h2 : Cond.static y ∈ ALLW) (h3 : Cond.initialized y.cls ∈ ALLW) (hw : GoodIn ALLW ws) : GoodIn ALLW (va_wsS own idx y ws) := by
  intro w h
  unfold va_wsS at h
  simp only [List.cons_append, List.nil_append, List.mem_cons] at h
  rcases h with rfl | rfl | rfl | h
  · exact allG _ h1
  · exact allG _ h2
  · exact allG _ h3
  · exact hw w h
theorem gdV {own C : String} {idx : Nat} {y : MethodName} {ws : List Cond} (h1 : Cond.methodLink own idx y ∈ ALLW) (h2 : Cond.instanceMethod y ∈ ALLW) (h3 : Cond.selects C y y ∈ ALLW) (h4 : Cond.initialized C ∈ ALLW) (hw : GoodIn ALLW ws) : GoodIn ALLW (wsV own idx C y ws) := by
  intro w h
  unfold wsV at h
  simp only [List.cons_append, List.nil_append, List.mem_cons] at h
  rcases h with rfl | rfl | rfl | rfl | h
  · exact allG _ h1
  · exact allG _ h2
  · exact allG _ h3
  · exact allG _ h4
  · exact hw w h
def imin (x y : Int32) : Int32 := if y < x then y else x
abbrev tyL (cI cZ cB cC : ClassId) : List (ClassId × FieldType) := [(cI, .int), (cZ, .boolean), (cB, .byte)]
/-- the words of private members of nest mates -/
def nestW : List Cond := [Cond.fieldLinkNest "ReportCauses" 216 "ReportCauses$Rules" "kind" "[I" "ReportCauses", Cond.fieldLinkNest "ReportCauses" 122 "ReportCauses$Rules" "target" "[I" "ReportCauses", Cond.fieldLinkNest "ReportCauses" 210 "ReportCauses$Rules" "predicate" "[I" "ReportCauses", Cond.fieldLinkNest "ReportCauses" 213 "ReportCauses$Rules" "number" "[I" "ReportCauses", Cond.fieldLinkNest "ReportCauses" 80 "ReportCauses$Rules" "count" "I" "ReportCauses", Cond.fieldLinkNest "ReportCauses" 121 "ReportCauses$Changes" "count" "I" "ReportCauses", Cond.fieldLinkNest "ReportCauses" 149 "ReportCauses$Findings" "count" "I" "ReportCauses", Cond.methodLinkNest "ReportCauses$Triples" 29 yK0_hasMember "ReportCauses", Cond.methodLinkNest "ReportCauses$Rules" 42 yK0_hasMember "ReportCauses", Cond.methodLinkNest "ReportCauses$Triples" 55 yK0_codeOf "ReportCauses", Cond.methodLinkNest "ReportCauses$Changes" 26 yK0_hasMember "ReportCauses"]
def isNest : Cond → Bool
  | .fieldLinkNest _ _ _ _ _ _ => true
  | .methodLinkNest _ _ _ _ => true
  | _ => false
theorem nestW_is : ∀ w ∈ nestW, isNest w = true := by decide +kernel
def NW (U : State) : Prop := ∀ w ∈ nestW, va_Nw w U
theorem isNest_tab {w : Cond} (h : isNest w = true) : w.onTables = true := by cases w <;> first | rfl | cases h
theorem NW.warm {s U : State} (hW : s.WarmedH U.vm) (h : NW s) : NW U := by
  intro w hw
  have h1 := nestW_is w hw
  have h2 := h w hw
  cases w <;> first | exact va_Nw.warmF hW h2 | exact va_Nw.warmM hW h2 | cases h1
theorem NW.same {s U : State} (hv : s.vm = U.vm) (h : NW s) : NW U := fun w hw => va_Nw.same (isNest_tab (nestW_is w hw)) hv (h w hw)
theorem nwM {U : State} (h : NW U) (k : Nat) {w : Cond} (hk : nestW[k]? = some w) : va_Nw w U := h w (List.mem_of_getElem? hk)
theorem nw {U : State} (h : NW U) (k : Nat) {w : Cond} (hk : nestW[k]? = some w) {args : Array Value} : w.before args U = true := va_Nw.use (isNest_tab (nestW_is w (List.mem_of_getElem? hk))) (nwM h k hk)
/-- how a method begins and ends -/
def Pr (D : va_G) (tys : List (ClassId × FieldType)) (sz : Nat) (ws : va_W) (U : State) : Prop := U.heap.size = sz ∧ va_P D vwCl ws U.heap ∧ va_K D vwCl tys U ∧ va_D (fun _ => True) ws ∧ NW U
def Po (D : va_G) (A : Nat → Prop) (ws : va_W) (t : State) : Prop := va_P D vwCl ws t.heap ∧ va_D A ws
abbrev QI (D : va_G) (A : Nat → Prop) (r0 : Int32) (ws : va_W) : Array Value → State → Outcome → State → Prop := va_Qi (fun (r : Int32) (_ : Unit) => r = r0) (fun _ t => Po D A ws t) A
abbrev QV (D : va_G) (A : Nat → Prop) (ws : va_W) : Array Value → State → Outcome → State → Prop := va_Qv (fun (_ : Unit) => True) (fun _ t => Po D A ws t) A
theorem Pr_blind {D : va_G} {tys : List (ClassId × FieldType)} {sz : Nat} {ws : va_W} {av : List Value} : FrameBlind (va_Pc av (Pr D tys sz ws)) := fun a U g mk q => by
  obtain ⟨q0, q1, qP, qK, qD, qN⟩ := q
  exact ⟨q0, q1, qP, va_K.moved (u := U) (U := U.calling g mk a) (Vm.Alike.refl U.vm) qK, qD, NW.same (s := U) (U := U.calling g mk a) rfl qN⟩
theorem Pr_at {D : va_G} {tys : List (ClassId × FieldType)} {ws : va_W} {s U : State} {H : Heap} {A : Nat → Prop} (hK : va_K D vwCl tys s) (hN : NW s) (hP : va_P D vwCl ws H) (hD : va_D A ws) (hU : U.heap = H) (hW : s.WarmedH U.vm) : Pr D tys H.size ws U :=
  ⟨by rw [hU], by rw [hU]; exact hP, va_K.moved hW.alike hK, hD.weaken (fun _ _ _ _ => trivial), hN.warm hW⟩
/-- an array class is the only one of its kind -/
theorem tyU {D : va_G} {tys : List (ClassId × FieldType)} {s : State} {cA : ClassId} {ty : FieldType} (h : va_K D vwCl (tys ++ [(cA, ty)]) s) (k : Nat) {cI : ClassId} (hk : tys[k]? = some (cI, ty)) (hp : refKind ty = false) : cI = cA := by
  have hl : k < tys.length := (List.getElem?_eq_some_iff.mp hk).1
  have h1 := (h.2 k (cI, ty) (by rw [List.getElem?_append_left hl]; exact hk)).2
  have h2 := (h.2 tys.length (cA, ty) (by rw [List.getElem?_append_right (Nat.le_refl _), Nat.sub_self]; rfl)).2
  cases ty <;> first | exact Option.some.inj (h1.symm.trans h2) | cases hp
theorem va_P0 {D : va_G} {H : Heap} : va_P D vwCl [] H := fun k q h => by simp at h
theorem va_D0 {A : Nat → Prop} : va_D A [] := ⟨fun i j p q h => by simp at h, fun k q h => by simp at h⟩
section OwnRows
variable {p : Program} {l : Launch} {e : Env} {R : Room} {s : State} {m : MethodId} {args : Array Value} {below : List Frame} {meth : Method} {c : Code} {H : Heap} {locs : List Loc} {cells slots : Nat} {Q : State → Prop} {pc : Nat} {ls : Array Slot} {rest : List Value} {cc : ByteArray} {D : va_G} {A : Nat → Prop} {H0 : Heap}
theorem topi {x y : Int32} (h : x = y) (k : W p l e R s m args below meth c H locs cells slots Q (F0 m pc ls (.int y :: rest))) : W p l e R s m args below meth c H locs cells slots Q (F0 m pc ls (.int x :: rest)) := by subst h; exact k
theorem kstart {ws : va_W} {g : JFrame} (hP : va_P D vwCl ws s.heap) (k : ∀ H : Heap, va_P D vwCl ws H → va_S A s.heap H [] → W p l e R s m args below meth c H [] cells slots Q g) : W p l e R s m args below meth c s.heap [] cells slots Q g := k _ hP va_S.rf
theorem k_reti {ws : va_W} {v : Int32} (hx : p.tables.exec = Jvm.exec) (hb : c.code = cc) (hr : meth.sig.returnType = some .int) (hlocks : meth.locks = false) (hP : va_P D vwCl ws H) (hD : va_D A ws) (hS : va_S A s.heap H locs) (hdg : decode cc pc = .ok (.ireturn, 1)) : W p l e R s m args below meth c H locs cells slots (MQ below (QI D A v ws) args s cells slots A) (F0 m pc ls [.int v]) :=
  W.iret (v := v) hx hb hr (fun t ht hW => ⟨⟨v, (), rfl, rfl, by rw [ht]; exact hP, hD⟩, hS.F ht⟩) hS.2.2 hdg hlocks
theorem k_retz {ws : va_W} {v : Int32} {ty : FieldType} (hx : p.tables.exec = Jvm.exec) (hb : c.code = cc) (hr : meth.sig.returnType = some ty) (hlocks : meth.locks = false) (hn : narrow ty (.int v) = .int v) (hP : va_P D vwCl ws H) (hD : va_D A ws) (hS : va_S A s.heap H locs) (hdg : decode cc pc = .ok (.ireturn, 1)) : W p l e R s m args below meth c H locs cells slots (MQ below (QI D A v ws) args s cells slots A) (F0 m pc ls [.int v]) :=
  W.zret (v := v) hx hb hr hn (fun t ht hW => ⟨⟨v, (), rfl, rfl, by rw [ht]; exact hP, hD⟩, hS.F ht⟩) hS.2.2 hdg hlocks
theorem k_retv {ws : va_W} (hx : p.tables.exec = Jvm.exec) (hb : c.code = cc) (hr : meth.sig.returnType = none) (hlocks : meth.locks = false) (hP : va_P D vwCl ws H) (hD : va_D A ws) (hS : va_S A s.heap H locs) (hdg : decode cc pc = .ok (.return_, 1)) : W p l e R s m args below meth c H locs cells slots (MQ below (QV D A ws) args s cells slots A) (F0 m pc ls []) :=
  W.vret hx hb hr (fun t ht hW => ⟨⟨(), rfl, trivial, by rw [ht]; exact hP, hD⟩, hS.F ht⟩) hS.2.2 hdg hlocks
theorem k_retvu {S : Type} {ws : S → va_W} (u : S) (hx : p.tables.exec = Jvm.exec) (hb : c.code = cc) (hr : meth.sig.returnType = none) (hlocks : meth.locks = false) (hP : va_P D vwCl (ws u) H) (hD : va_D A (ws u)) (hS : va_S A s.heap H locs) (hdg : decode cc pc = .ok (.return_, 1)) : W p l e R s m args below meth c H locs cells slots (MQ below (va_Qv (fun (_ : S) => True) (fun u t => Po D A (ws u) t) A) args s cells slots A) (F0 m pc ls []) :=
  W.vret hx hb hr (fun t ht hW => ⟨⟨u, rfl, trivial, by rw [ht]; exact hP, hD⟩, hS.F ht⟩) hS.2.2 hdg hlocks
variable {ws wc wr w1 ws' : va_W} {st0 : List Value} {a : Array Value} {r0 : Int32}
theorem k_calli (hr : va_Run p l e R s m args below meth c H locs cells slots 0 0 (F0 m pc ls st0) rest (QI D (va_A wc H.size) r0 w1 a) (va_A wc H.size)) (hP : va_P D vwCl ws H) (hD : va_D A ws) (hS : va_S A H0 H locs) (hA : ∀ q, H0.size ≤ q → A q) (isC isR pm : List Nat) (hC : isC.map (fun i => ws[i]?) = wc.map some) (hR : isR.map (fun i => ws[i]?) = wr.map some) (hn : va_nd isR = true) (hdis : ∀ i ∈ isR, i ∉ isC) (hpn : va_nd pm = true) (hpm : pm.map (fun i => (wr ++ w1)[i]?) = ws'.map some)
    (kk : ∀ (H1 : Heap) (locs1 : List Loc), va_P D vwCl ws' H1 → va_D A ws' → va_S A H0 H1 locs1 → W p l e R s m args below meth c H1 locs1 cells slots Q (F0 m (pc + 3) ls (.int r0 :: rest))) : W p l e R s m args below meth c H locs cells slots Q (F0 m pc ls st0) := by
  have hF := va_free (wc := wc) hD hS hA isC hC
  refine va_calli hr hS (fun q _ h => hF q h) hF (fun r u t H1 locs1 ht hvm hw hB hz1 hk1 hS1 => ?_)
  subst hw
  obtain ⟨hP1, hD1⟩ := hB
  rw [ht] at hP1
  obtain ⟨hP2, hD2⟩ := va_join (wr := wr) (w1 := w1) hP hD isC isR hC hR hn hdis hk1 hF hP1 hD1
  exact kk H1 locs1 (hP2.sub pm (fm_of hpm)) (hD2.sub pm hpn hpm) hS1
theorem k_callv (hr : va_Run p l e R s m args below meth c H locs cells slots 0 0 (F0 m pc ls st0) rest (QV D (va_A wc H.size) w1 a) (va_A wc H.size)) (hP : va_P D vwCl ws H) (hD : va_D A ws) (hS : va_S A H0 H locs) (hA : ∀ q, H0.size ≤ q → A q) (isC isR pm : List Nat) (hC : isC.map (fun i => ws[i]?) = wc.map some) (hR : isR.map (fun i => ws[i]?) = wr.map some) (hn : va_nd isR = true) (hdis : ∀ i ∈ isR, i ∉ isC) (hpn : va_nd pm = true) (hpm : pm.map (fun i => (wr ++ w1)[i]?) = ws'.map some)
    (kk : ∀ (H1 : Heap) (locs1 : List Loc), va_P D vwCl ws' H1 → va_D A ws' → va_S A H0 H1 locs1 → W p l e R s m args below meth c H1 locs1 cells slots Q (F0 m (pc + 3) ls rest)) : W p l e R s m args below meth c H locs cells slots Q (F0 m pc ls st0) := by
  have hF := va_free (wc := wc) hD hS hA isC hC
  refine va_callv hr hS (fun q _ h => hF q h) hF (fun u t H1 locs1 ht hvm hw hB hz1 hk1 hS1 => ?_)
  obtain ⟨hP1, hD1⟩ := hB
  rw [ht] at hP1
  obtain ⟨hP2, hD2⟩ := va_join (wr := wr) (w1 := w1) hP hD isC isR hC hR hn hdis hk1 hF hP1 hD1
  exact kk H1 locs1 (hP2.sub pm (fm_of hpm)) (hD2.sub pm hpn hpm) hS1
/-- a call that has no cells of its own: nothing changes -/
theorem k_calli0 (hr : va_Run p l e R s m args below meth c H locs cells slots 0 0 (F0 m pc ls st0) rest (QI D (va_A [] H.size) r0 [] a) (va_A [] H.size)) (hP : va_P D vwCl ws H) (hD : va_D A ws) (hS : va_S A H0 H locs) (hA : ∀ q, H0.size ≤ q → A q)
    (kk : ∀ (H1 : Heap) (locs1 : List Loc), va_P D vwCl ws H1 → va_D A ws → va_S A H0 H1 locs1 → W p l e R s m args below meth c H1 locs1 cells slots Q (F0 m (pc + 3) ls (.int r0 :: rest))) : W p l e R s m args below meth c H locs cells slots Q (F0 m pc ls st0) := by
  have hF := va_free (wc := []) hD hS hA [] rfl
  refine va_calli hr hS (fun q _ h => hF q h) hF (fun r u t H1 locs1 ht hvm hw hB hz1 hk1 hS1 => ?_)
  subst hw
  refine kk H1 locs1 (hP.kept fun k q hq => hk1 q.1 (hP k q hq).lt ?_) hD hS1
  intro h
  rcases h with ⟨k2, e2, h2⟩ | h2
  · simp at h2
  · exact absurd (hP k q hq).lt (by omega)
end OwnRows
theorem tabout6_0 {x : Int32} (h0 : ¬ x = 0) (h1 : ¬ x = 1) (h2 : ¬ x = 2) (h3 : ¬ x = 3) (h4 : ¬ x = 4) (h5 : ¬ x = 5) : x.toInt < 0 ∨ 5 < x.toInt := by
  have q0 := lv_neT (a := 0) h0 (by decide)
  have q1 := lv_neT (a := 1) h1 (by decide)
  have q2 := lv_neT (a := 2) h2 (by decide)
  have q3 := lv_neT (a := 3) h3 (by decide)
  have q4 := lv_neT (a := 4) h4 (by decide)
  have q5 := lv_neT (a := 5) h5 (by decide)
  omega
theorem tabout4_0 {x : Int32} (h0 : ¬ x = 0) (h1 : ¬ x = 1) (h2 : ¬ x = 2) (h3 : ¬ x = 3) : x.toInt < 0 ∨ 3 < x.toInt := by
  have q0 := lv_neT (a := 0) h0 (by decide)
  have q1 := lv_neT (a := 1) h1 (by decide)
  have q2 := lv_neT (a := 2) h2 (by decide)
  have q3 := lv_neT (a := 3) h3 (by decide)
  omega
theorem tabout5_0 {x : Int32} (h0 : ¬ x = 0) (h1 : ¬ x = 1) (h2 : ¬ x = 2) (h3 : ¬ x = 3) (h4 : ¬ x = 4) : x.toInt < 0 ∨ 4 < x.toInt := by
  have q0 := lv_neT (a := 0) h0 (by decide)
  have q1 := lv_neT (a := 1) h1 (by decide)
  have q2 := lv_neT (a := 2) h2 (by decide)
  have q3 := lv_neT (a := 3) h3 (by decide)
  have q4 := lv_neT (a := 4) h4 (by decide)
  omega
abbrev wT (ta ta1 ta2 ta3 : Nat) (cI cZ cB cC : ClassId) (tso : Int32) (tob : Nat → Int32) (tme : Nat → Int32) (twi : Nat → Int32) : va_W := [(ta, .inr (1, [.ref ta1, .ref ta2, .ref ta3, .int tso])), (ta1, .inl (cI, 72, .inl tob)), (ta2, .inl (cI, 12, .inl tme)), (ta3, .inl (cI, 12, .inl twi))]
abbrev wTT (ta ta1 ta2 ta3 ua ua1 ua2 ua3 : Nat) (cI cZ cB cC : ClassId) (tso : Int32) (tob : Nat → Int32) (tme : Nat → Int32) (twi : Nat → Int32) (uso : Int32) (uob : Nat → Int32) (ume : Nat → Int32) (uwi : Nat → Int32) : va_W := [(ta, .inr (1, [.ref ta1, .ref ta2, .ref ta3, .int tso])), (ta1, .inl (cI, 72, .inl tob)), (ta2, .inl (cI, 12, .inl tme)), (ta3, .inl (cI, 12, .inl twi)), (ua, .inr (1, [.ref ua1, .ref ua2, .ref ua3, .int uso])), (ua1, .inl (cI, 72, .inl uob)), (ua2, .inl (cI, 12, .inl ume)), (ua3, .inl (cI, 12, .inl uwi))]
abbrev wR (ra ra1 ra2 ra3 ra4 : Nat) (cI cZ cB cC : ClassId) (rn : Int32) (rki : Nat → Int32) (rta : Nat → Int32) (rpr : Nat → Int32) (rnu : Nat → Int32) : va_W := [(ra, .inr (2, [.ref ra1, .ref ra2, .ref ra3, .ref ra4, .int rn])), (ra1, .inl (cI, 10, .inl rki)), (ra2, .inl (cI, 10, .inl rta)), (ra3, .inl (cI, 10, .inl rpr)), (ra4, .inl (cI, 10, .inl rnu))]
abbrev wRT (ra ra1 ra2 ra3 ra4 ta ta1 ta2 ta3 : Nat) (cI cZ cB cC : ClassId) (rn : Int32) (rki : Nat → Int32) (rta : Nat → Int32) (rpr : Nat → Int32) (rnu : Nat → Int32) (tso : Int32) (tob : Nat → Int32) (tme : Nat → Int32) (twi : Nat → Int32) : va_W := [(ra, .inr (2, [.ref ra1, .ref ra2, .ref ra3, .ref ra4, .int rn])), (ra1, .inl (cI, 10, .inl rki)), (ra2, .inl (cI, 10, .inl rta)), (ra3, .inl (cI, 10, .inl rpr)), (ra4, .inl (cI, 10, .inl rnu)), (ta, .inr (1, [.ref ta1, .ref ta2, .ref ta3, .int tso])), (ta1, .inl (cI, 72, .inl tob)), (ta2, .inl (cI, 12, .inl tme)), (ta3, .inl (cI, 12, .inl twi))]
abbrev wC (ca ca1 ca2 ca3 : Nat) (cI cZ cB cC : ClassId) (cn : Int32) (cpu : Nat → Int32) (cco : Nat → Int32) (cwe : Nat → Int32) : va_W := [(ca, .inr (3, [.ref ca1, .ref ca2, .ref ca3, .int cn])), (ca1, .inl (cZ, 12, .inl cpu)), (ca2, .inl (cI, 12, .inl cco)), (ca3, .inl (cI, 12, .inl cwe))]
abbrev wCT (ca ca1 ca2 ca3 ta ta1 ta2 ta3 : Nat) (cI cZ cB cC : ClassId) (cn : Int32) (cpu : Nat → Int32) (cco : Nat → Int32) (cwe : Nat → Int32) (tso : Int32) (tob : Nat → Int32) (tme : Nat → Int32) (twi : Nat → Int32) : va_W := [(ca, .inr (3, [.ref ca1, .ref ca2, .ref ca3, .int cn])), (ca1, .inl (cZ, 12, .inl cpu)), (ca2, .inl (cI, 12, .inl cco)), (ca3, .inl (cI, 12, .inl cwe)), (ta, .inr (1, [.ref ta1, .ref ta2, .ref ta3, .int tso])), (ta1, .inl (cI, 72, .inl tob)), (ta2, .inl (cI, 12, .inl tme)), (ta3, .inl (cI, 12, .inl twi))]
abbrev wF (fa fa1 fa2 : Nat) (cI cZ cB cC : ClassId) (fn : Int32) (fse : Nat → Int32) (fsu : Nat → Int32) : va_W := [(fa, .inr (4, [.ref fa1, .ref fa2, .int fn])), (fa1, .inl (cI, 30, .inl fse)), (fa2, .inl (cI, 30, .inl fsu))]
abbrev wM (oa tra tra1 tra2 tra3 tia tia1 tia2 tia3 rua rua1 rua2 rua3 rua4 cha cha1 cha2 cha3 foa foa1 foa2 sba : Nat) (cI cZ cB cC : ClassId) (ocs : Int32) (oal : Int32) (olt : Int32) (ols : Int32) (trso : Int32) (trob : Nat → Int32) (trme : Nat → Int32) (trwi : Nat → Int32) (tiso : Int32) (tiob : Nat → Int32) (time : Nat → Int32) (tiwi : Nat → Int32) (run : Int32) (ruki : Nat → Int32) (ruta : Nat → Int32) (rupr : Nat → Int32) (runu : Nat → Int32) (chn : Int32) (chpu : Nat → Int32) (chco : Nat → Int32) (chwe : Nat → Int32) (fon : Int32) (fose : Nat → Int32) (fosu : Nat → Int32) : va_W := [(oa, .inr (0, [.ref tra, .ref tia, .ref rua, .ref cha, .ref foa, .ref sba, .int ocs, .int oal, .int olt, .int ols])), (tra, .inr (1, [.ref tra1, .ref tra2, .ref tra3, .int trso])), (tra1, .inl (cI, 72, .inl trob)), (tra2, .inl (cI, 12, .inl trme)), (tra3, .inl (cI, 12, .inl trwi)), (tia, .inr (1, [.ref tia1, .ref tia2, .ref tia3, .int tiso])), (tia1, .inl (cI, 72, .inl tiob)), (tia2, .inl (cI, 12, .inl time)), (tia3, .inl (cI, 12, .inl tiwi)), (rua, .inr (2, [.ref rua1, .ref rua2, .ref rua3, .ref rua4, .int run])), (rua1, .inl (cI, 10, .inl ruki)), (rua2, .inl (cI, 10, .inl ruta)), (rua3, .inl (cI, 10, .inl rupr)), (rua4, .inl (cI, 10, .inl runu)), (cha, .inr (3, [.ref cha1, .ref cha2, .ref cha3, .int chn])), (cha1, .inl (cZ, 12, .inl chpu)), (cha2, .inl (cI, 12, .inl chco)), (cha3, .inl (cI, 12, .inl chwe)), (foa, .inr (4, [.ref foa1, .ref foa2, .int fon])), (foa1, .inl (cI, 30, .inl fose)), (foa2, .inl (cI, 30, .inl fosu))]
abbrev wA (aa : Nat) (cI cZ cB cC : ClassId) (af : Nat → Int32) : va_W := [(aa, .inl (cI, 12, .inl af))]
abbrev wX (m_a m_there_a m_now_a m_kinds_a m_targets_a m_predicates_a m_numbers_a m_puts_a m_codes_a m_weights_a m_sets_a m_picks_a m_classes_a m_steps_a m_told_a : Nat) (cI cZ cB cC : ClassId) (m_rules : Int32) (m_changes : Int32) (m_mostTries : Int32) (m_tried : Int32) (m_settled : Int32) (m_found : Int32) (m_isCovered : Int32) (m_covered : Int32) (m_toldMany : Int32) (m_there : Nat → Int32) (m_now : Nat → Int32) (m_kinds : Nat → Int32) (m_targets : Nat → Int32) (m_predicates : Nat → Int32) (m_numbers : Nat → Int32) (m_puts : Nat → Int32) (m_codes : Nat → Int32) (m_weights : Nat → Int32) (m_sets : Nat → Int32) (m_picks : Nat → Int32) (m_classes : Nat → Int32) (m_steps : Nat → Int32) (m_told : Nat → Int32) : va_W := [(m_a, .inr (5, [.ref m_there_a, .ref m_now_a, .int m_rules, .ref m_kinds_a, .ref m_targets_a, .ref m_predicates_a, .ref m_numbers_a, .int m_changes, .ref m_puts_a, .ref m_codes_a, .ref m_weights_a, .int m_mostTries, .int m_tried, .int m_settled, .int m_found, .ref m_sets_a, .int m_isCovered, .int m_covered, .ref m_picks_a, .ref m_classes_a, .ref m_steps_a, .ref m_told_a, .int m_toldMany])), (m_there_a, .inl (cZ, 864, .inl m_there)), (m_now_a, .inl (cZ, 864, .inl m_now)), (m_kinds_a, .inl (cI, 10, .inl m_kinds)), (m_targets_a, .inl (cI, 10, .inl m_targets)), (m_predicates_a, .inl (cI, 10, .inl m_predicates)), (m_numbers_a, .inl (cI, 10, .inl m_numbers)), (m_puts_a, .inl (cZ, 12, .inl m_puts)), (m_codes_a, .inl (cI, 12, .inl m_codes)), (m_weights_a, .inl (cI, 12, .inl m_weights)), (m_sets_a, .inl (cI, 31, .inl m_sets)), (m_picks_a, .inl (cI, 12, .inl m_picks)), (m_classes_a, .inl (cZ, 12, .inl m_classes)), (m_steps_a, .inl (cI, 12, .inl m_steps)), (m_told_a, .inl (cI, 400, .inl m_told))]
theorem gkK1_init : GoodIn ALLW wsK1_init := gdC wdt1_30
theorem gkK2_init : GoodIn ALLW wsK2_init := gdC wdt1_50
theorem gkK3_init : GoodIn ALLW wsK3_init := gdC wdt1_77
theorem gkK4_init : GoodIn ALLW wsK4_init := gdC wdt1_98
theorem gkK0_isNode : GoodIn ALLW wsK0_isNode := gdC wdt1_187
theorem gkK0_isPredicate : GoodIn ALLW wsK0_isPredicate := gdC wdt1_190
theorem gkK0_isTriple : GoodIn ALLW wsK0_isTriple := gdC wdt1_184
theorem gkK1_objectsOf : GoodIn ALLW wsK1_objectsOf := gdC wdt1_198
theorem gkK0_hasMember : GoodIn ALLW wsK0_hasMember := gdC wdt1_201
theorem gkK1_has : GoodIn ALLW wsK1_has := gdC wdt1_194
theorem gkK0_codeOf : GoodIn ALLW wsK0_codeOf := gdC wdt1_204
theorem gkK1_alter : GoodIn ALLW wsK1_alter := gdC wdt1_208
theorem gkJ6_fill_aIIV : GoodIn ALLW wsJ6_fill_aIIV := gdC wdt1_215
theorem gkJ2_numberOfTrailingZeros : GoodIn ALLW wsJ2_numberOfTrailingZeros := gdC wdt1_225
theorem gkK1_least : GoodIn ALLW wsK1_least := gdC wdt1_222
theorem gkK1_classesOf : GoodIn ALLW wsK1_classesOf := gdC wdt1_219
theorem gkK1_sortIntoClasses : GoodIn ALLW wsK1_sortIntoClasses := gdC wdt1_212
theorem gkK0_putOrTake : GoodIn ALLW wsK0_putOrTake := gdC wdt1_181
theorem gkK0_triple : GoodIn ALLW wsK0_triple := gdC wdt1_177
theorem gkK0_drop : GoodIn ALLW wsK0_drop := gdC wdt1_233
theorem gkK0_fitsKind : GoodIn ALLW wsK0_fitsKind := gdC wdt2_0
theorem gkK2_add : GoodIn ALLW wsK2_add := gdC wdt2_4
theorem gkK0_rule : GoodIn ALLW wsK0_rule := gdC wdt1_237
theorem gkK1_membersOf : GoodIn ALLW wsK1_membersOf := gdC wdt2_16
theorem gkJ2_bitCount : GoodIn ALLW wsJ2_bitCount := gdC wdt2_25
theorem gkK2_holds : GoodIn ALLW wsK2_holds := gdC wdt2_21
theorem gkK2_failing : GoodIn ALLW wsK2_failing := gdC wdt2_12
theorem gkK0_results : GoodIn ALLW wsK0_results := gdC wdt2_8
theorem gkK0_nthMember : GoodIn ALLW wsK0_nthMember := gdC wdt2_40
theorem gkK0_nthResult : GoodIn ALLW wsK0_nthResult := gdC wdt2_37
theorem gkK0_result : GoodIn ALLW wsK0_result := gdC wdt2_33
theorem gkK1_isMember : GoodIn ALLW wsK1_isMember := gdC wdt2_49
theorem gkK0_isOf : GoodIn ALLW wsK0_isOf := gdC wdt2_45
theorem gkK1_leadingInto : GoodIn ALLW wsK1_leadingInto := gdC wdt2_65
theorem gkK1_fewestBelows : GoodIn ALLW wsK1_fewestBelows := gdC wdt2_61
theorem gkK1_nthOfReason : GoodIn ALLW wsK1_nthOfReason := gdC wdt2_57
theorem gkK0_reason : GoodIn ALLW wsK0_reason := gdC wdt2_53
theorem gkK3_add : GoodIn ALLW wsK3_add := gdC wdt2_74
theorem gkK0_change : GoodIn ALLW wsK0_change := gdC wdt2_70
theorem gkK2_has : GoodIn ALLW wsK2_has := gdC wdt2_82
theorem gkK2_fails : GoodIn ALLW wsK2_fails := gdC wdt2_86
theorem gkK0_offer : GoodIn ALLW wsK0_offer := gdC wdt2_91
theorem gkK0_offerAbout : GoodIn ALLW wsK0_offerAbout := gdC wdt2_95
theorem gkK0_suggest : GoodIn ALLW wsK0_suggest := gdC wdt2_78
theorem gkK3_forget : GoodIn ALLW wsK3_forget := gdC wdt2_103
theorem gkK4_forget : GoodIn ALLW wsK4_forget := gdC wdt2_107
theorem gkK0_clear : GoodIn ALLW wsK0_clear := gdC wdt2_99
theorem gkK0_tries : GoodIn ALLW wsK0_tries := gdC wdt2_111
theorem gkJ2_numberOfLeadingZeros : GoodIn ALLW wsJ2_numberOfLeadingZeros := gdC wdt2_126
theorem gkK0_nextSet : GoodIn ALLW wsK0_nextSet := gdC wdt2_123
theorem gkK4_hasPartOf : GoodIn ALLW wsK4_hasPartOf := gdC wdt2_130
theorem gkK1_copyFrom : GoodIn ALLW wsK1_copyFrom := gdC wdt2_138
theorem gkK3_doAll : GoodIn ALLW wsK3_doAll := gdC wdt2_145
theorem gkK0_tryOut : GoodIn ALLW wsK0_tryOut := gdC wdt2_134
theorem gkK3_weightOf : GoodIn ALLW wsK3_weightOf := gdC wdt2_151
theorem gkK4_add : GoodIn ALLW wsK4_add := gdC wdt2_155
theorem gkK0_findSets : GoodIn ALLW wsK0_findSets := gdC wdt2_120
theorem gkK0_find : GoodIn ALLW wsK0_find := gdC wdt2_115
theorem gkK0_settled : GoodIn ALLW wsK0_settled := gdC wdt2_159
theorem gkK0_tried : GoodIn ALLW wsK0_tried := gdC wdt2_163
theorem gkK4_at : GoodIn ALLW wsK4_at := gdC wdt2_171
theorem gkK0_set : GoodIn ALLW wsK0_set := gdC wdt2_167
theorem gkK0_weight : GoodIn ALLW wsK0_weight := gdC wdt2_175
theorem gkK0_breaks : GoodIn ALLW wsK0_breaks := gdC wdt2_179
theorem gkK0_apply : GoodIn ALLW wsK0_apply := gdC wdt2_183
theorem gkK0_putsAllRight : GoodIn ALLW wsK0_putsAllRight := gdC wdt2_196
theorem gkK0_lightestCover : GoodIn ALLW wsK0_lightestCover := gdC wdt2_192
theorem gkK0_cover : GoodIn ALLW wsK0_cover := gdC wdt2_188
theorem gkK0_covered : GoodIn ALLW wsK0_covered := gdC wdt2_200
theorem gkJ2_stringSize : GoodIn ALLW wsJ2_stringSize := gdC wdt3_125
theorem gkJ4_canEncode : GoodIn ALLW wsJ4_canEncode := gdC wdt3_150
theorem gkK5_init : GoodIn ALLW wsK5_init := gdC wdt3_184
theorem gkK5_in : GoodIn ALLW wsK5_in := gdC wdt4_25
theorem gkK5_isTriple : GoodIn ALLW wsK5_isTriple := gdC wdt4_22
theorem gkK5_codeOf : GoodIn ALLW wsK5_codeOf := gdC wdt4_28
theorem gkK5_triple : GoodIn ALLW wsK5_triple := gdC wdt4_19
theorem gkK5_drop : GoodIn ALLW wsK5_drop := gdC wdt4_32
theorem gkK5_rule : GoodIn ALLW wsK5_rule := gdC wdt4_36
theorem gkK5_begin : GoodIn ALLW wsK5_begin := gdC wdt4_44
theorem gkK5_isOfNow : GoodIn ALLW wsK5_isOfNow := gdC wdt4_56
theorem gkK5_holds : GoodIn ALLW wsK5_holds := gdC wdt4_60
theorem gkK5_isResult : GoodIn ALLW wsK5_isResult := gdC wdt4_52
theorem gkK5_resultsNow : GoodIn ALLW wsK5_resultsNow := gdC wdt4_48
theorem gkK5_results : GoodIn ALLW wsK5_results := gdC wdt4_40
theorem gkK5_result : GoodIn ALLW wsK5_result := gdC wdt4_64
theorem gkK5_isOf : GoodIn ALLW wsK5_isOf := gdC wdt4_68
theorem gkK5_measure : GoodIn ALLW wsK5_measure := gdC wdt4_76
theorem gkK5_reason : GoodIn ALLW wsK5_reason := gdC wdt4_72
theorem gkK5_isThere : GoodIn ALLW wsK5_isThere := gdC wdt4_84
theorem gkK5_enter : GoodIn ALLW wsK5_enter := gdC wdt4_88
theorem gkK5_change : GoodIn ALLW wsK5_change := gdC wdt4_80
theorem gkK5_isPair : GoodIn ALLW wsK5_isPair := gdC wdt4_96
theorem gkK5_offer : GoodIn ALLW wsK5_offer := gdC wdt4_100
theorem gkK5_suggest : GoodIn ALLW wsK5_suggest := gdC wdt4_92
theorem gkK5_clear : GoodIn ALLW wsK5_clear := gdC wdt4_104
theorem gkK5_tries : GoodIn ALLW wsK5_tries := gdC wdt4_108
theorem gkK5_first : GoodIn ALLW wsK5_first := gdC wdt4_116
theorem gkK5_setOf : GoodIn ALLW wsK5_setOf := gdC wdt4_120
theorem gkK5_hasOneWithin : GoodIn ALLW wsK5_hasOneWithin := gdC wdt4_124
theorem gkK5_look : GoodIn ALLW wsK5_look := gdC wdt4_128
theorem gkK5_next : GoodIn ALLW wsK5_next := gdC wdt4_132
theorem gkK5_weightOf : GoodIn ALLW wsK5_weightOf := gdC wdt4_140
theorem gkK5_sizeOf : GoodIn ALLW wsK5_sizeOf := gdC wdt4_143
theorem gkK5_sort : GoodIn ALLW wsK5_sort := gdC wdt4_136
theorem gkK5_find : GoodIn ALLW wsK5_find := gdC wdt4_112
theorem gkK5_weigh : GoodIn ALLW wsK5_weigh := gdC wdt4_151
theorem gkK5_cover : GoodIn ALLW wsK5_cover := gdC wdt4_147
theorem gkK5_settled : GoodIn ALLW wsK5_settled := gdC wdt4_155
theorem gkK5_tried : GoodIn ALLW wsK5_tried := gdC wdt4_159
theorem gkK5_isFound : GoodIn ALLW wsK5_isFound := gdC wdt4_167
theorem gkK5_member : GoodIn ALLW wsK5_member := gdC wdt4_170
theorem gkK5_set : GoodIn ALLW wsK5_set := gdC wdt4_163
theorem gkK5_weight : GoodIn ALLW wsK5_weight := gdC wdt4_174
theorem gkK5_breaks : GoodIn ALLW wsK5_breaks := gdC wdt4_178
theorem gkK5_apply : GoodIn ALLW wsK5_apply := gdC wdt4_182
theorem gkK5_covered : GoodIn ALLW wsK5_covered := gdC wdt4_186
theorem gkK5_tell : GoodIn ALLW wsK5_tell := gdC wdt4_194
theorem gkK5_tellNumber : GoodIn ALLW wsK5_tellNumber := gdC wdt4_198
theorem gkK5_sentence : GoodIn ALLW wsK5_sentence := gdC wdt4_190
theorem gkK5_letter : GoodIn ALLW wsK5_letter := gdC wdt4_202
