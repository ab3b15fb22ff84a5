def ctW (D : va_G) (A : Nat → Prop) (s : State) (ws : va_W) (H : Heap) (locs : List Loc) : Prop := va_P D vwCl ws H ∧ va_D A ws ∧ va_S A s.heap H locs
/-! contracts in one form: a world before, a world behind, an answer -/
abbrev TY (cy : Nat → ClassId) : List (ClassId × FieldType) := [(cy 0, .int), (cy 1, .long), (cy 2, .boolean), (cy 3, .object "HedgeWays$Grid"), (cy 4, .array .long)]
def mvI (j : Nat) : Int32 := if j = 0 then -8 else if j = 1 then 1 else if j = 2 then 8 else -1
def mvT : Nat → Value := fun j => .int (mvI j)
abbrev mvW : Cond := .fieldLinkNest "HedgeWays$Grid" 44 "HedgeWays" "MOVES" "[I" "HedgeWays"
/-- arrays of arrays of a type can be made -/
def va_AOA (ty : FieldType) (U : State) : Prop := (Cond.arrayOver (.array ty)).before #[] U = true
theorem va_AOA.use {ty : FieldType} {A : Array Value} {U : State} (h : va_AOA ty U) : (Cond.arrayOver (.array ty)).before A U = true := h
theorem va_AOA.moved {ty : FieldType} {u U : State} (hvm : u.vm.Alike U.vm) (h : va_AOA ty u) : va_AOA ty U := by
  obtain ⟨comp, c, k, h1, h2, h3, h4, h5⟩ := Jvm.Stand.arrayOver_specB h
  obtain ⟨k', hk', he⟩ := hvm.2.2 _ _ h3
  have hi : (U.vm.classes.findIdx? fun (x : Class) => match x.kind with | .array component _ => component == comp | _ => false) = some c := by
    refine (va_idx_bare U.vm comp).symm.trans ?_
    first | rw [hvm.bare_eq] | rw [← hvm.bare_eq]
    exact (va_idx_bare u.vm comp).trans h2
  have hkind : k'.kind = .array comp (.array ty) := by rw [he]; exact h4
  have f1 : U.vm.findClass (FieldType.array ty).toString = some comp := by rw [hvm.findClass]; exact h1
  have f2 : U.vm.findClass ("[" ++ (FieldType.array ty).toString) = some c := by rw [hvm.findClass]; exact h5
  unfold va_AOA Cond.before Cond.holds
  simp only [Cond.value]
  rw [f1, Option.bind_some]
  refine (congrArg (fun o : Option Nat => (o.bind (fun c => (U.vm.classes[c]?).map fun (k : Class) => match k.kind with | .array _ ty' => decide (ty' = FieldType.array ty) && decide (U.vm.findClass ("[" ++ (FieldType.array ty).toString) = some c) | _ => false) == some true)) hi).trans ?_
  simp [hk', hkind, f2]
def hwS (A : Nat → Prop) (U : State) : Prop := va_Nw mvW U ∧ va_AO "HedgeWays$Grid" U ∧ va_AOA .long U ∧ ∃ mv : Nat, va_Z "HedgeWays" "MOVES" "[I" (.ref mv) A U U.heap ∧ va_T .int mv 4 mvT A U U.heap
def ctP (D : va_G) (cy : Nat → ClassId) (ws : va_W) (sz : Nat) (av : List Value) : Array Value → State → Prop := va_Pc av (fun U => U.heap.size = sz ∧ va_P D vwCl ws U.heap ∧ va_K D vwCl (TY cy) U ∧ va_D (fun _ => True) ws ∧ hwS (va_A ws sz) U)
def ctB (D : va_G) (cy : Nat → ClassId) (A : Nat → Prop) (ws' : va_W) : Unit → State → Prop := fun _ t => va_P D vwCl ws' t.heap ∧ va_K D vwCl (TY cy) t ∧ va_D A ws'
def ctQi (D : va_G) (cy : Nat → ClassId) (A : Nat → Prop) (ws' : va_W) (r : Int32) : Array Value → State → Outcome → State → Prop := va_Qi (fun (r' : Int32) (_ : Unit) => r' = r) (ctB D cy A ws') A
def ctQl (D : va_G) (cy : Nat → ClassId) (A : Nat → Prop) (ws' : va_W) (r : Int64) : Array Value → State → Outcome → State → Prop := va_Ql (fun (r' : Int64) (_ : Unit) => r' = r) (ctB D cy A ws') A
def ctQv (D : va_G) (cy : Nat → ClassId) (A : Nat → Prop) (ws' : va_W) : Array Value → State → Outcome → State → Prop := va_Qv (fun (_ : Unit) => True) (ctB D cy A ws') A
def CtI (l : Launch) (y : MethodName) (wl : List Cond) (rm : Room) (D : va_G) (cy : Nat → ClassId) (av : List Value) (ws ws' : va_W) (r : Int32) : Prop := ∀ sz : Nat, Met l y wl rm (ctP D cy ws sz av) (ctQi D cy (va_A ws sz) ws' r) 0 0 (va_A ws sz)
def CtL (l : Launch) (y : MethodName) (wl : List Cond) (rm : Room) (D : va_G) (cy : Nat → ClassId) (av : List Value) (ws ws' : va_W) (r : Int64) : Prop := ∀ sz : Nat, Met l y wl rm (ctP D cy ws sz av) (ctQl D cy (va_A ws sz) ws' r) 0 0 (va_A ws sz)
def CtV (l : Launch) (y : MethodName) (wl : List Cond) (rm : Room) (D : va_G) (cy : Nat → ClassId) (av : List Value) (ws ws' : va_W) : Prop := ∀ sz : Nat, Met l y wl rm (ctP D cy ws sz av) (ctQv D cy (va_A ws sz) ws') 0 0 (va_A ws sz)
def QI (D : va_G) (cy : Nat → ClassId) (A : Nat → Prop) (ws' : va_W) (r : Int32) (below : List Frame) (args : Array Value) (s : State) : State → Prop := MQ below (ctQi D cy A ws' r) args s 0 0 A
def QL (D : va_G) (cy : Nat → ClassId) (A : Nat → Prop) (ws' : va_W) (r : Int64) (below : List Frame) (args : Array Value) (s : State) : State → Prop := MQ below (ctQl D cy A ws' r) args s 0 0 A
def QV (D : va_G) (cy : Nat → ClassId) (A : Nat → Prop) (ws' : va_W) (below : List Frame) (args : Array Value) (s : State) : State → Prop := MQ below (ctQv D cy A ws') args s 0 0 A
/-- what a walk knows of where it is -/
def ctX (p : Program) (s : State) (m : MethodId) (args : Array Value) (meth : Method) (c : Code) (cc : ByteArray) (nL : Nat) (ret : Option FieldType) (wl : List Cond) (own : String) (A : Nat → Prop) : Prop :=
  p.tables.exec = Jvm.exec ∧ c.code = cc ∧ c.maxLocals = nL ∧ s.vm.findClass own = some m.cls ∧ (∀ w ∈ wl, w.before args s = true) ∧ meth.sig.returnType = ret ∧ meth.locks = false ∧ (∀ q : Nat, s.heap.size ≤ q → A q) ∧ hwS A s
theorem CtI.of {l : Launch} {y : MethodName} {wl wl' : List Cond} {rm : Room} {D : va_G} {cy : Nat → ClassId} {av : List Value} {ws ws' : va_W} {r : Int32} {cc : ByteArray} {maxL : Nat} {ret : Option FieldType}
    {own : String} (hy : plainName y.cls = true) (ho : y.cls = own) (hw : wl = Cond.code y cc maxL ret :: wl') (hn : (lg_sl av).length ≤ maxL)
    (body : ∀ (p : Program) (e : Env) (s : State) (m : MethodId) (args : Array Value) (below : List Frame) (meth : Method) (c : Code) (A : Nat → Prop) (Q : State → Prop), ctX p s m args meth c cc maxL ret wl own A → Q = QI D cy A ws' r below args s → va_K D vwCl (TY cy) s → va_P D vwCl ws s.heap → va_D A ws → va_S A s.heap s.heap [] → ∀ ls : Array Slot, lv_has ls maxL (lv_args 0 av) →
      W p l e rm s m args below meth c s.heap [] 0 0 Q (F0 m 0 ls [])) : CtI l y wl rm D cy av ws ws' r := by
  intro sz
  refine Met.ofW (cc := cc) (maxL := maxL) (ret := ret) hy hw ?_
  intro p e s m args below meth c s₁ B hml hv
  obtain ⟨rfl, hsz, hP, hK, hD0, hZ⟩ := hv
  subst hsz
  have hl := lv_entry av (n := maxL) hn
  rw [lg_entry_eq]
  exact body p e s m _ below meth c _ _ ⟨B.exec, B.bytes, hml, ho ▸ findClass_of_methodNamed B.named, atoms_spec (ws := wl) B.pre, B.returns, B.notSynchronized, fun q h => Or.inr h, hZ⟩ rfl hK hP (hD0.self (sz := s.heap.size)) va_S.rf _ hl
theorem CtL.of {l : Launch} {y : MethodName} {wl wl' : List Cond} {rm : Room} {D : va_G} {cy : Nat → ClassId} {av : List Value} {ws ws' : va_W} {r : Int64} {cc : ByteArray} {maxL : Nat} {ret : Option FieldType}
    {own : String} (hy : plainName y.cls = true) (ho : y.cls = own) (hw : wl = Cond.code y cc maxL ret :: wl') (hn : (lg_sl av).length ≤ maxL)
    (body : ∀ (p : Program) (e : Env) (s : State) (m : MethodId) (args : Array Value) (below : List Frame) (meth : Method) (c : Code) (A : Nat → Prop) (Q : State → Prop), ctX p s m args meth c cc maxL ret wl own A → Q = QL D cy A ws' r below args s → va_K D vwCl (TY cy) s → va_P D vwCl ws s.heap → va_D A ws → va_S A s.heap s.heap [] → ∀ ls : Array Slot, lv_has ls maxL (lv_args 0 av) →
      W p l e rm s m args below meth c s.heap [] 0 0 Q (F0 m 0 ls [])) : CtL l y wl rm D cy av ws ws' r := by
  intro sz
  refine Met.ofW (cc := cc) (maxL := maxL) (ret := ret) hy hw ?_
  intro p e s m args below meth c s₁ B hml hv
  obtain ⟨rfl, hsz, hP, hK, hD0, hZ⟩ := hv
  subst hsz
  have hl := lv_entry av (n := maxL) hn
  rw [lg_entry_eq]
  exact body p e s m _ below meth c _ _ ⟨B.exec, B.bytes, hml, ho ▸ findClass_of_methodNamed B.named, atoms_spec (ws := wl) B.pre, B.returns, B.notSynchronized, fun q h => Or.inr h, hZ⟩ rfl hK hP (hD0.self (sz := s.heap.size)) va_S.rf _ hl
theorem CtV.of {l : Launch} {y : MethodName} {wl wl' : List Cond} {rm : Room} {D : va_G} {cy : Nat → ClassId} {av : List Value} {ws ws' : va_W} {cc : ByteArray} {maxL : Nat} {ret : Option FieldType}
    {own : String} (hy : plainName y.cls = true) (ho : y.cls = own) (hw : wl = Cond.code y cc maxL ret :: wl') (hn : (lg_sl av).length ≤ maxL)
    (body : ∀ (p : Program) (e : Env) (s : State) (m : MethodId) (args : Array Value) (below : List Frame) (meth : Method) (c : Code) (A : Nat → Prop) (Q : State → Prop), ctX p s m args meth c cc maxL ret wl own A → Q = QV D cy A ws' below args s → va_K D vwCl (TY cy) s → va_P D vwCl ws s.heap → va_D A ws → va_S A s.heap s.heap [] → ∀ ls : Array Slot, lv_has ls maxL (lv_args 0 av) →
      W p l e rm s m args below meth c s.heap [] 0 0 Q (F0 m 0 ls [])) : CtV l y wl rm D cy av ws ws' := by
  intro sz
  refine Met.ofW (cc := cc) (maxL := maxL) (ret := ret) hy hw ?_
  intro p e s m args below meth c s₁ B hml hv
  obtain ⟨rfl, hsz, hP, hK, hD0, hZ⟩ := hv
  subst hsz
  have hl := lv_entry av (n := maxL) hn
  rw [lg_entry_eq]
  exact body p e s m _ below meth c _ _ ⟨B.exec, B.bytes, hml, ho ▸ findClass_of_methodNamed B.named, atoms_spec (ws := wl) B.pre, B.returns, B.notSynchronized, fun q h => Or.inr h, hZ⟩ rfl hK hP (hD0.self (sz := s.heap.size)) va_S.rf _ hl
section CTR
variable {p : Program} {l : Launch} {e : Env} {R : Room} {s : State} {m : MethodId} {args : Array Value} {below : List Frame} {meth : Method} {c : Code} {H : Heap} {locs : List Loc} {cells slots : Nat} {Q : State → Prop}
variable {cc : ByteArray} {pc : Nat} {ls : Array Slot} {rest : List Value} {D : va_G} {cy : Nat → ClassId} {A : Nat → Prop} {ws ws' : va_W} {nL : Nat} {wl : List Cond} {own : String}
theorem ct_iret {v r : Int32} (X : ctX p s m args meth c cc nL (some .int) wl own A) (hQ : Q = QI D cy A ws' r below args s) (hK : va_K D vwCl (TY cy) s) (hP : va_P D vwCl ws' H) (hD : va_D A ws') (hS : va_S A s.heap H locs) (hv : v = r) (hdg : decode cc pc = .ok (.ireturn, 1)) :
    W p l e R s m args below meth c H locs 0 0 Q (F0 m pc ls [.int v]) := by
  subst hQ
  obtain ⟨hx, hb, hml, hown, hts, hr, hlocks, hA, hZ⟩ := X
  exact W.iret hx hb hr (fun t ht hW => ⟨⟨v, (), rfl, hv, by rw [ht]; exact hP, va_K.moved hW.alike hK, hD⟩, hS.F ht⟩) hS.2.2 hdg hlocks
theorem ct_lret {v r : Int64} (X : ctX p s m args meth c cc nL (some .long) wl own A) (hQ : Q = QL D cy A ws' r below args s) (hK : va_K D vwCl (TY cy) s) (hP : va_P D vwCl ws' H) (hD : va_D A ws') (hS : va_S A s.heap H locs) (hv : v = r) (hdg : decode cc pc = .ok (.lreturn, 1)) :
    W p l e R s m args below meth c H locs 0 0 Q (F0 m pc ls [.long v]) := by
  subst hQ
  obtain ⟨hx, hb, hml, hown, hts, hr, hlocks, hA, hZ⟩ := X
  exact W.lret hx hb hr (fun t ht hW => ⟨⟨v, (), rfl, hv, by rw [ht]; exact hP, va_K.moved hW.alike hK, hD⟩, hS.F ht⟩) hS.2.2 hdg hlocks
theorem ct_vret (X : ctX p s m args meth c cc nL none wl own A) (hQ : Q = QV D cy A ws' below args s) (hK : va_K D vwCl (TY cy) s) (hP : va_P D vwCl ws' H) (hD : va_D A ws') (hS : va_S A s.heap H locs) (hdg : decode cc pc = .ok (.return_, 1)) :
    W p l e R s m args below meth c H locs 0 0 Q (F0 m pc ls []) := by
  subst hQ
  obtain ⟨hx, hb, hml, hown, hts, hr, hlocks, hA, hZ⟩ := X
  exact W.vret hx hb hr (fun t ht hW => ⟨⟨(), rfl, trivial, by rw [ht]; exact hP, va_K.moved hW.alike hK, hD⟩, hS.F ht⟩) hS.2.2 hdg hlocks
theorem W.zretN {cc : ByteArray} {Qc : Array Value → State → Outcome → State → Prop} {free : Addr → Prop} {v v' : Int32} {ty : FieldType} (hexec : p.tables.exec = Jvm.exec) (hb : c.code = cc) (hr : meth.sig.returnType = some ty) (hn : narrow ty (.int v) = .int v')
    (hq : ∀ t : State, t.heap = H → s.WarmedH t.vm → Qc args s (.returned (some (.int v'))) t) (hf : ∀ q ∈ locs, free q.base)
    {pc : Nat} {ls : Array Slot} (hdg : decode cc pc = .ok (.ireturn, 1)) (hlocks : meth.locks = false) : W p l e R s m args below meth c H locs cells slots (MQ below Qc args s cells slots free) (F0 m pc ls [.int v]) := by
  intro T hT X
  obtain ⟨fs, hret, hrun, hended, hW, hframe⟩ := X.leave (v := some (.int v')) (hlocks := hlocks) (fun h => by rw [hr] at h; cases h)
  have hmeth' : T.vm.method? m = some meth := X.method'
  refine ⟨T.setFrames fs, ?_, .returned (some (.int v')), hrun, hended, hq _ hT hW, locs, ⟨⟨_, rfl⟩, hW, hframe⟩, hf⟩
  jvm_step X.here [X.here.top, hexec, hb, hdg, hmeth', hr, hn]
  (try refine ⟨rfl, ?_⟩); (try refine ⟨rfl, ?_⟩)
  first | (intro acts; rw [hret _ acts rfl rfl rfl]) | rw [hret _ _ rfl rfl rfl]
  exact Steps.refl _
theorem qnb_spec (v : Int32) : narrow .boolean (.int v) = .int (qnb v) := by
  unfold qnb vp_nar
  cases h : narrow .boolean (.int v) <;> first | rfl | (simp [narrow] at h)
theorem ct_zret {v r : Int32} (X : ctX p s m args meth c cc nL (some .boolean) wl own A) (hQ : Q = QI D cy A ws' r below args s) (hK : va_K D vwCl (TY cy) s) (hP : va_P D vwCl ws' H) (hD : va_D A ws') (hS : va_S A s.heap H locs) (hv : qnb v = r) (hdg : decode cc pc = .ok (.ireturn, 1)) :
    W p l e R s m args below meth c H locs 0 0 Q (F0 m pc ls [.int v]) := by
  subst hQ
  obtain ⟨hx, hb, hml, hown, hts, hr, hlocks, hA, hZ⟩ := X
  exact W.zretN hx hb hr (qnb_spec v) (fun t ht hW => ⟨⟨qnb v, (), rfl, hv, by rw [ht]; exact hP, va_K.moved hW.alike hK, hD⟩, hS.F ht⟩) hS.2.2 hdg hlocks
/-! calls -/
theorem hwS.narrow {A B : Nat → Prop} {U : State} (h : hwS A U) (hAB : ∀ q, B q → A q) : hwS B U := by
  obtain ⟨h0, g1, g2, mv, h1, h2⟩ := h
  exact ⟨h0, g1, g2, mv, h1.narrow hAB, h2.narrow hAB⟩
theorem hwS.at {A : Nat → Prop} {u U : State} {H : Heap} (h : hwS A u) (hS : va_S A u.heap H locs) (hU : U.heap = H) (hW : u.WarmedH U.vm) : hwS A U := by
  obtain ⟨h0, g1, g2, mv, h1, h2⟩ := h
  have hvm := hW.alike
  exact ⟨h0.warmF hW, g1.moved hvm, g2.moved hvm, mv, by rw [hU]; exact (h1.kept hS.2.1).moved hvm, by rw [hU]; exact (h2.kept hS.2.1).moved hvm⟩
theorem hwS.calling {A : Nat → Prop} {U : State} {g : JFrame} {mk : MethodId} {a : Array Value} (h : hwS A U) : hwS A (U.calling g mk a) := by
  obtain ⟨h0, g1, g2, mv, h1, h2⟩ := h
  exact ⟨va_Nw.same (u := U) (U := U.calling g mk a) rfl rfl h0, va_AO.moved (u := U) (U := U.calling g mk a) (Vm.Alike.refl U.vm) g1, va_AOA.moved (u := U) (U := U.calling g mk a) (Vm.Alike.refl U.vm) g2, mv, va_Z.moved (u := U) (U := U.calling g mk a) (Vm.Alike.refl U.vm) h1, va_T.moved (u := U) (U := U.calling g mk a) (Vm.Alike.refl U.vm) h2⟩
theorem ct_blind {wc : va_W} {sz : Nat} {av : List Value} : FrameBlind (ctP D cy wc sz av) := fun a U g mk q => by
  obtain ⟨q0, q1, qP, qK, qD, qZ⟩ := q
  exact ⟨q0, q1, qP, va_K.moved (u := U) (U := U.calling g mk a) (Vm.Alike.refl U.vm) qK, qD, qZ.calling⟩
theorem ct_pre {ret : Option FieldType} {wc : va_W} {av : List Value} (X : ctX p s m args meth c cc nL ret wl own A) (hK : va_K D vwCl (TY cy) s) (hP : va_P D vwCl ws H) (hD : va_D A ws) (hS : va_S A s.heap H locs) (isC : List Nat) (hC : isC.map (fun i => ws[i]?) = wc.map some) (hn : va_nd isC = true) (hC' : isC.filterMap (fun i => ws[i]?) = wc) : PreS s H (ctP D cy wc H.size av) av := by
  obtain ⟨hx, hb, hml, hown, hts, hr, hlocks, hA, hZ⟩ := X
  have hPc := hP.sub isC hC'
  have hDc := hD.sub isC hn hC
  have hFc := va_free hD hS hA isC hC
  refine ⟨ct_blind, fun U hU hW => ⟨rfl, by rw [hU], by rw [hU]; exact hPc, va_K.moved hW.alike hK, hDc.weaken (fun _ _ _ _ => trivial), ?_⟩⟩
  exact (hZ.at hS hU hW).narrow hFc
theorem ct_kept {wc : va_W} {H1 : Heap} (hP : va_P D vwCl ws H) (hD : va_D A ws) (isC : List Nat) (hC : isC.map (fun i => ws[i]?) = wc.map some) (hk : ∀ q : Nat, q < H.size → ¬ va_A wc H.size q → H1[q]? = H[q]?) (hP1 : va_P D vwCl wc H1) : va_P D vwCl ws H1 := by
  intro k q hq
  by_cases h : va_A wc H.size q.1
  · rcases h with ⟨j, e9, hj⟩ | h
    · have hj2 : (isC.map (fun i => ws[i]?))[j]? = some (some (q.1, e9)) := by rw [hC, List.getElem?_map, hj]; rfl
      rw [List.getElem?_map] at hj2
      cases hi : isC[j]? with
      | none => rw [hi] at hj2; cases hj2
      | some i =>
        rw [hi] at hj2
        have hw : ws[i]? = some (q.1, e9) := Option.some.inj hj2
        have hik : i = k := hD.1 i k _ _ hw hq rfl
        subst hik
        have : q = (q.1, e9) := Option.some.inj (hq.symm.trans hw)
        exact hP1 j q (by rw [this]; exact hj)
    · exact absurd ((hP k q hq).lt) (Nat.not_lt.mpr h)
  · exact (hP k q hq).kept (hk q.1 ((hP k q hq).lt) h)
/-- a call that leaves its world as it was -/
theorem ct_ci0 {ret : Option FieldType} {wc : va_W} {r : Int32} {a : Array Value} {st0 : List Value} (X : ctX p s m args meth c cc nL ret wl own A) (hP : va_P D vwCl ws H) (hD : va_D A ws) (hS : va_S A s.heap H locs) (isC : List Nat) (hC : isC.map (fun i => ws[i]?) = wc.map some)
    (hr : va_Run p l e R s m args below meth c H locs cells slots 0 0 (F0 m pc ls st0) rest (ctQi D cy (va_A wc H.size) wc r a) (va_A wc H.size))
    (kk : ∀ (H : Heap) (locs : List Loc), va_P D vwCl ws H → va_S A s.heap H locs → W p l e R s m args below meth c H locs cells slots Q (F0 m (pc + 3) ls (.int r :: rest))) : W p l e R s m args below meth c H locs cells slots Q (F0 m pc ls st0) := by
  have hFc := va_free hD hS X.2.2.2.2.2.2.2.1 isC hC
  refine va_calli hr hS (fun q _ h => hFc q h) hFc (fun r' u t H1 locs1 ht hvm hw hB hz1 hk1 hS1 => ?_)
  cases hw
  obtain ⟨hP1, -, -⟩ := hB
  rw [ht] at hP1
  exact kk H1 locs1 (ct_kept hP hD isC hC hk1 hP1) hS1
theorem ct_cl0 {ret : Option FieldType} {wc : va_W} {r : Int64} {a : Array Value} {st0 : List Value} (X : ctX p s m args meth c cc nL ret wl own A) (hP : va_P D vwCl ws H) (hD : va_D A ws) (hS : va_S A s.heap H locs) (isC : List Nat) (hC : isC.map (fun i => ws[i]?) = wc.map some)
    (hr : va_Run p l e R s m args below meth c H locs cells slots 0 0 (F0 m pc ls st0) rest (ctQl D cy (va_A wc H.size) wc r a) (va_A wc H.size))
    (kk : ∀ (H : Heap) (locs : List Loc), va_P D vwCl ws H → va_S A s.heap H locs → W p l e R s m args below meth c H locs cells slots Q (F0 m (pc + 3) ls (.long r :: rest))) : W p l e R s m args below meth c H locs cells slots Q (F0 m pc ls st0) := by
  have hFc := va_free hD hS X.2.2.2.2.2.2.2.1 isC hC
  refine va_calll hr hS (fun q _ h => hFc q h) hFc (fun r' u t H1 locs1 ht hvm hw hB hz1 hk1 hS1 => ?_)
  cases hw
  obtain ⟨hP1, -, -⟩ := hB
  rw [ht] at hP1
  exact kk H1 locs1 (ct_kept hP hD isC hC hk1 hP1) hS1
theorem ct_cv0 {ret : Option FieldType} {wc : va_W} {a : Array Value} {st0 : List Value} (X : ctX p s m args meth c cc nL ret wl own A) (hP : va_P D vwCl ws H) (hD : va_D A ws) (hS : va_S A s.heap H locs) (isC : List Nat) (hC : isC.map (fun i => ws[i]?) = wc.map some)
    (hr : va_Run p l e R s m args below meth c H locs cells slots 0 0 (F0 m pc ls st0) rest (ctQv D cy (va_A wc H.size) wc a) (va_A wc H.size))
    (kk : ∀ (H : Heap) (locs : List Loc), va_P D vwCl ws H → va_S A s.heap H locs → W p l e R s m args below meth c H locs cells slots Q (F0 m (pc + 3) ls rest)) : W p l e R s m args below meth c H locs cells slots Q (F0 m pc ls st0) := by
  have hFc := va_free hD hS X.2.2.2.2.2.2.2.1 isC hC
  refine va_callv hr hS (fun q _ h => hFc q h) hFc (fun u t H1 locs1 ht hvm hw hB hz1 hk1 hS1 => ?_)
  obtain ⟨hP1, -, -⟩ := hB
  rw [ht] at hP1
  exact kk H1 locs1 (ct_kept hP hD isC hC hk1 hP1) hS1
/-- a call that changes its world -/
theorem ct_ci {ret : Option FieldType} {wc wr w1 wn : va_W} {r : Int32} {a : Array Value} {st0 : List Value} (X : ctX p s m args meth c cc nL ret wl own A) (hP : va_P D vwCl ws H) (hD : va_D A ws) (hS : va_S A s.heap H locs) (isC isR pm : List Nat) (hC : isC.map (fun i => ws[i]?) = wc.map some) (hR : isR.map (fun i => ws[i]?) = wr.map some) (hn : va_nd isR = true) (hdis : ∀ i ∈ isR, i ∉ isC) (hpm : va_nd pm = true) (hN : pm.map (fun i => (wr ++ w1)[i]?) = wn.map some) (hN' : pm.filterMap (fun i => (wr ++ w1)[i]?) = wn)
    (hr : va_Run p l e R s m args below meth c H locs cells slots 0 0 (F0 m pc ls st0) rest (ctQi D cy (va_A wc H.size) w1 r a) (va_A wc H.size))
    (kk : ∀ (H : Heap) (locs : List Loc), va_P D vwCl wn H → va_D A wn → va_S A s.heap H locs → W p l e R s m args below meth c H locs cells slots Q (F0 m (pc + 3) ls (.int r :: rest))) : W p l e R s m args below meth c H locs cells slots Q (F0 m pc ls st0) := by
  have hFc := va_free hD hS X.2.2.2.2.2.2.2.1 isC hC
  refine va_calli hr hS (fun q _ h => hFc q h) hFc (fun r' u t H1 locs1 ht hvm hw hB hz1 hk1 hS1 => ?_)
  cases hw
  obtain ⟨hP1, -, hD1⟩ := hB
  rw [ht] at hP1
  obtain ⟨hP2, hD2⟩ := va_join hP hD isC isR hC hR hn hdis hk1 hFc hP1 hD1
  exact kk H1 locs1 (hP2.sub pm hN') (hD2.sub pm hpm hN) hS1
theorem ct_cl {ret : Option FieldType} {wc wr w1 wn : va_W} {r : Int64} {a : Array Value} {st0 : List Value} (X : ctX p s m args meth c cc nL ret wl own A) (hP : va_P D vwCl ws H) (hD : va_D A ws) (hS : va_S A s.heap H locs) (isC isR pm : List Nat) (hC : isC.map (fun i => ws[i]?) = wc.map some) (hR : isR.map (fun i => ws[i]?) = wr.map some) (hn : va_nd isR = true) (hdis : ∀ i ∈ isR, i ∉ isC) (hpm : va_nd pm = true) (hN : pm.map (fun i => (wr ++ w1)[i]?) = wn.map some) (hN' : pm.filterMap (fun i => (wr ++ w1)[i]?) = wn)
    (hr : va_Run p l e R s m args below meth c H locs cells slots 0 0 (F0 m pc ls st0) rest (ctQl D cy (va_A wc H.size) w1 r a) (va_A wc H.size))
    (kk : ∀ (H : Heap) (locs : List Loc), va_P D vwCl wn H → va_D A wn → va_S A s.heap H locs → W p l e R s m args below meth c H locs cells slots Q (F0 m (pc + 3) ls (.long r :: rest))) : W p l e R s m args below meth c H locs cells slots Q (F0 m pc ls st0) := by
  have hFc := va_free hD hS X.2.2.2.2.2.2.2.1 isC hC
  refine va_calll hr hS (fun q _ h => hFc q h) hFc (fun r' u t H1 locs1 ht hvm hw hB hz1 hk1 hS1 => ?_)
  cases hw
  obtain ⟨hP1, -, hD1⟩ := hB
  rw [ht] at hP1
  obtain ⟨hP2, hD2⟩ := va_join hP hD isC isR hC hR hn hdis hk1 hFc hP1 hD1
  exact kk H1 locs1 (hP2.sub pm hN') (hD2.sub pm hpm hN) hS1
theorem ct_cv {ret : Option FieldType} {wc wr w1 wn : va_W} {a : Array Value} {st0 : List Value} (X : ctX p s m args meth c cc nL ret wl own A) (hP : va_P D vwCl ws H) (hD : va_D A ws) (hS : va_S A s.heap H locs) (isC isR pm : List Nat) (hC : isC.map (fun i => ws[i]?) = wc.map some) (hR : isR.map (fun i => ws[i]?) = wr.map some) (hn : va_nd isR = true) (hdis : ∀ i ∈ isR, i ∉ isC) (hpm : va_nd pm = true) (hN : pm.map (fun i => (wr ++ w1)[i]?) = wn.map some) (hN' : pm.filterMap (fun i => (wr ++ w1)[i]?) = wn)
    (hr : va_Run p l e R s m args below meth c H locs cells slots 0 0 (F0 m pc ls st0) rest (ctQv D cy (va_A wc H.size) w1 a) (va_A wc H.size))
    (kk : ∀ (H : Heap) (locs : List Loc), va_P D vwCl wn H → va_D A wn → va_S A s.heap H locs → W p l e R s m args below meth c H locs cells slots Q (F0 m (pc + 3) ls rest)) : W p l e R s m args below meth c H locs cells slots Q (F0 m pc ls st0) := by
  have hFc := va_free hD hS X.2.2.2.2.2.2.2.1 isC hC
  refine va_callv hr hS (fun q _ h => hFc q h) hFc (fun u t H1 locs1 ht hvm hw hB hz1 hk1 hS1 => ?_)
  obtain ⟨hP1, -, hD1⟩ := hB
  rw [ht] at hP1
  obtain ⟨hP2, hD2⟩ := va_join hP hD isC isR hC hR hn hdis hk1 hFc hP1 hD1
  exact kk H1 locs1 (hP2.sub pm hN') (hD2.sub pm hpm hN) hS1
/-- the run of an instance method, and of a static one, over the world's places isC -/
theorem ct_rV {ret ret1 : Option FieldType} {y : MethodName} {wy : List Cond} {rm : Room} {Qc : Array Value → State → Outcome → State → Prop} {free : Addr → Prop} {bytes : ByteArray} {maxL n index b ci q0 : Nat} {fs : List Value} {q : vw_C} {As : List Value} {wc : va_W} (X : ctX p s m args meth c cc nL ret wl own A) (hK : va_K D vwCl (TY cy) s) (hP : va_P D vwCl ws H) (hD : va_D A ws) (hS : va_S A s.heap H locs) (isC : List Nat) (hC : isC.map (fun i => ws[i]?) = wc.map some) (hn : va_nd isC = true) (hC' : isC.filterMap (fun i => ws[i]?) = wc)
    (hM : Met l y wy rm (ctP D cy wc H.size (.ref b :: As)) Qc 0 0 free) (cw : CallW R s args own q.1 index y bytes maxL ret1 wy rm 0 0 n) (hci : vwCl[ci]? = some q) (he : ws[q0]? = some (b, .inr (ci, fs))) (hlen : As.length = n) {lv : List (Nat × Value)} (hls : lv_has ls nL lv) {st0 : List Value} (hst : st0 = As.reverse ++ .ref b :: rest) (hrm : (rest.map fun v => v.category).sum ≤ 8) (hdg : decode cc pc = .ok (.invokevirtual index, 3)) (hcs : cells ≤ R.cells) (hss : slots ≤ R.slots) :
    va_Run p l e R s m args below meth c H locs cells slots 0 0 (F0 m pc ls st0) rest (Qc (Value.ref b :: As).toArray) free :=
  va_runV ⟨X.1, X.2.1, X.2.2.1, X.2.2.2.1, X.2.2.2.2.1⟩ hM cw ⟨(ct_pre (av := .ref b :: As) X hK hP hD hS isC hC hn hC').1, va_recv hK hP hci he, (ct_pre (av := .ref b :: As) X hK hP hD hS isC hC hn hC').2⟩ rfl hlen hls.1 hst (lv_room hrm) hdg ⟨hcs, hss⟩
theorem ct_rS {ret ret1 : Option FieldType} {y : MethodName} {wy : List Cond} {rm : Room} {Qc : Array Value → State → Outcome → State → Prop} {free : Addr → Prop} {bytes : ByteArray} {maxL n index : Nat} {As : List Value} {wc : va_W} (X : ctX p s m args meth c cc nL ret wl own A) (hK : va_K D vwCl (TY cy) s) (hP : va_P D vwCl ws H) (hD : va_D A ws) (hS : va_S A s.heap H locs) (isC : List Nat) (hC : isC.map (fun i => ws[i]?) = wc.map some) (hn : va_nd isC = true) (hC' : isC.filterMap (fun i => ws[i]?) = wc)
    (hM : Met l y wy rm (ctP D cy wc H.size As) Qc 0 0 free) (cw : CallB R s args own index y bytes maxL ret1 wy rm 0 0 n ∧ (Cond.static y).before args s = true) (hlen : As.length = n) {lv : List (Nat × Value)} (hls : lv_has ls nL lv) {st0 : List Value} (hst : st0 = As.reverse ++ rest) (hrm : (rest.map fun v => v.category).sum ≤ 8) (hdg : decode cc pc = .ok (.invokestatic index, 3)) (hcs : cells ≤ R.cells) (hss : slots ≤ R.slots) :
    va_Run p l e R s m args below meth c H locs cells slots 0 0 (F0 m pc ls st0) rest (Qc As.toArray) free :=
  va_runS ⟨X.1, X.2.1, X.2.2.1, X.2.2.2.1, X.2.2.2.2.1⟩ hM cw (ct_pre (av := As) X hK hP hD hS isC hC hn hC') rfl hlen hls.1 hst (lv_room hrm) hdg ⟨hcs, hss⟩
end CTR
