/-! ===== BEGIN a constructor that throws (launches without stack traces) ===== -/
section VXIA
variable {p : Program} {l : Launch} {e : Env} {R : Room} {s : State} {m : MethodId} {args : Array Value} {below : List Frame} {meth : Method} {c : Code} {T : State} {locs : List Loc} {cells slots : Nat}
theorem vx_callI (X : Stand p l e R s m args below meth c T locs cells slots) (hexec : p.tables.exec = Jvm.exec) {own : String} {index : Nat} {y : MethodName} {bytes : ByteArray} {maxL : Nat}
    (hown : s.vm.findClass own = some m.cls) (hy1 : y.name = "<init>") (hlink : (Cond.methodLink own index y).before args s = true) (hinst : (Cond.instanceMethod y).before args s = true)
    (hcode : (Cond.code y bytes maxL none).before args s = true) (hy : y.cls ≠ "java/lang/invoke/MethodHandle" ∧ y.cls ≠ "java/lang/invoke/VarHandle")
    {W9 : Nat} {Pre : Pt → Array Value → Prop} {Post : Pt → Array Value → Option Value → Pt → Prop} {PostX : Pt → Array Value → Addr → Pt → Prop} (hK : vx_Back l R p e below s args y 3 W9 Pre Post PostX)
    {g : JFrame} (hg : g.method = m) (hsize : g.locals.size = c.maxLocals) {a : Addr} {argsL rest : List Value} (hlen : ∀ sig, parseMethodDescriptor y.desc = some sig → argsL.length = sig.parameters.length)
    (hstack : g.stack = argsL.reverse ++ .ref a :: rest) (hW : 2 * g.monitorRoom + (rest.map fun v => v.category).sum ≤ W9) (hdg : decode c.code g.pc = .ok (.invokespecial index, 3))
    (hpre : ∀ vm₁, s.WarmedH vm₁ → Pre ⟨T.setVm vm₁, locs, cells, slots⟩ (Value.ref a :: argsL).toArray) :
    (∃ (v : Option Value) (vm₁ : Vm) (B : Pt), s.WarmedH vm₁ ∧ Stand p l e R s m args below meth c B.U B.locs B.cells B.slots ∧ Post ⟨T.setVm vm₁, locs, cells, slots⟩ (Value.ref a :: argsL).toArray v B ∧
      ∀ target, Steps p.tables e below (B.U.setTop { g with pc := g.pc + 3, stack := v.toList ++ rest }) target → Steps p.tables e below (T.setTop g) target) ∨
    (∃ (q : Addr) (vm₁ : Vm) (B : Pt), s.WarmedH vm₁ ∧ Stand p l e R s m args below meth c B.U B.locs B.cells B.slots ∧ PostX ⟨T.setVm vm₁, locs, cells, slots⟩ (Value.ref a :: argsL).toArray q B ∧
      Steps p.tables e below (T.setTop g) ((B.U.setTop { g with stack := rest }).pushFrame (.throwing q))) := by
  subst hg
  have hpl : e.platform.magicAccessors = ({} : Platform).magicAccessors := by rw [X.admits.platform]
  obtain ⟨mk, methM, cM, kP, vm₁, hnamed, hmethM, hcodeM, -, hlocalsM, -, hkP, -, hW₁, hstep₁⟩ := Steps.initColdArgs (e := e) X.here hexec X.warmed hpl hown hy1 hy hlink hinst hcode (f := g) rfl hlen hstack hdg
  have X₁ := X.noted hW₁
  rcases hK g.method meth c ⟨T.setVm vm₁, locs, cells, slots⟩ { g with stack := rest } (.invokespecial index) mk (Value.ref a :: argsL).toArray X₁ rfl hsize hdg hW (X₁.named hnamed) (hpre vm₁ X₁.warmed) with ⟨v, B, X', hpost, hsteps⟩ | ⟨q, B, X', hpost, hsteps⟩
  · exact Or.inl ⟨v, vm₁, B, X₁.warmed, X', hpost, fun target h => hstep₁ _ fun acts => by rw [doInvoke_state]; exact hsteps.trans h⟩
  · exact Or.inr ⟨q, vm₁, B, X₁.warmed, X', hpost, hstep₁ _ fun acts => by rw [doInvoke_state]; exact hsteps⟩
end VXIA
section VXIB
variable {p : Program} {l : Launch} {e : Env} {R : Room} {s : State} {m : MethodId} {args : Array Value} {below : List Frame} {meth : Method} {c : Code} {H : Heap} {locs : List Loc} {cells slots : Nat}
variable {y : MethodName} {bytes cc : ByteArray} {maxL nL mc ms n index : Nat} {ret : Option FieldType} {ws : List Cond} {rm : Room} {Pc : Array Value → State → Prop} {Qc : Array Value → State → Outcome → State → Prop} {XC : String → State → State → Prop} {free : Addr → Prop} {Ts : List Cond} {own C : String} {b : Addr} {As rest : List Value} {g : JFrame}
theorem vx_runI (S : CallFix p m c cc nL s args Ts own) (hM : vx_Met l y ws rm Pc Qc XC mc ms free) (cw : CallB R s args own index y bytes maxL none ws rm mc ms n ∧ y.name = "<init>" ∧ (Cond.instanceMethod y).before args s = true) (hp : PreS s H Pc (.ref b :: As))
    (hg : g.method = m) (hn : As.length = n) (hsize : g.locals.size = nL) (hstack : g.stack = As.reverse ++ .ref b :: rest) (hW : 2 * g.monitorRoom + (rest.map fun v => v.category).sum ≤ 8) (hdg : decode cc g.pc = .ok (.invokespecial index, 3)) (hf : cells + mc ≤ R.cells ∧ slots + ms ≤ R.slots) :
    vx_Run p l e R s m args below meth c H locs cells slots mc ms g rest (Qc (Value.ref b :: As).toArray) XC free := by
  have hK : vx_Back l R p e below s args y 3 8 (PreOf R mc ms Pc) (PostOf Qc mc ms free) (vx_Post XC mc ms free) := vx_callBack cw.1 hM hp.1
  obtain ⟨⟨-, -, -, -, -, -, hcode, -, hy, hlen, hl⟩, hy1, hin⟩ := cw
  obtain ⟨hx, hb, hml, ho, -⟩ := S
  have hPc := hp.2
  intro T hT X
  rcases vx_callI X hx (bytes := bytes) (maxL := maxL) ho hy1 hl hin hcode hy hK hg (hsize.trans hml.symm) (a := b) (argsL := As) (rest := rest) (fun sig h => hn.trans (hlen sig h)) hstack hW (by rw [hb]; exact hdg)
    (fun vm₁ hW₁ => ⟨hf.1, hf.2, hPc (T.setVm vm₁) hT hW₁⟩) with ⟨v, vm₁, ⟨U', l2, c2, s2⟩, hW₁, X', ⟨g', mk, t, L, e1, e2, hq, h1, hL, h2, h3⟩, st⟩ | ⟨q, vm₁, ⟨U', l2, c2, s2⟩, hW₁, X', ⟨g', mk, t, L, E, ce, e1, e2, hq, hce, hcv, hcl, h1, hL, h2, h3⟩, st⟩
  · dsimp only [Pt.U, Pt.locs, Pt.cells, Pt.slots] at X' e1 e2 h1 h2 h3 st
    subst h1; subst h2; subst h3
    exact Or.inl ⟨v, (T.setVm vm₁).calling g' mk (Value.ref b :: As).toArray, t, U', L, hT, X', hL, e1, e2, hq, st⟩
  · dsimp only [Pt.U, Pt.locs, Pt.cells, Pt.slots] at X' e1 e2 h1 h2 h3 st hcl
    subst h1; subst h2; subst h3
    exact Or.inr ⟨q, (T.setVm vm₁).calling g' mk (Value.ref b :: As).toArray, t, U', L, E, ce, hT, X', hL, e1, e2, hq, hce, hcv, vx_cls hW₁ hcl, st⟩
end VXIB
/-! ===== END ===== -/
/-! Contracts over the memory, calls, ends, throws. -/
section CT0
def rmd (d mc ms : Nat) : Room := { frames := d, cells := mc, slots := ms, locals := 64 * d }
def PcM (G : GC) (A : List Value) (M : Mem) : Array Value → State → Prop := fun a U => a = A.toArray ∧ G.1.WarmedH U.vm ∧ Rel G M U.heap
def QcM (G : GC) (PR : Option Value → Mem → Prop) : Array Value → State → Outcome → State → Prop := fun _ _ o t => ∃ v M', o = .returned v ∧ Rel G M' t.heap ∧ PR v M'
def XCM (G : GC) (PX : String → Mem → Prop) : String → State → State → Prop := fun E _ t => ∃ M', Rel G M' t.heap ∧ PX E M'
/-- THE CONTRACT: from the memory M with the arguments A the method y (its code mi) returns with PR, or throws with PX; at most mc cells of ms slots are new; d frames are room enough -/
def Ht (G : GC) (mi : MI) (y : MethodName) (d : Nat) (A : List Value) (M : Mem) (PR : Option Value → Mem → Prop) (PX : String → Mem → Prop) (mc ms : Nat) : Prop :=
  ∀ l, GOK G l → vx_Met l y (cwd mi y :: wG) (rmd d mc ms) (PcM G A M) (QcM G PR) (XCM G PX) mc ms (fun q => gB G ≤ q)
def QF (G : GC) (PR : Option Value → Mem → Prop) (PX : String → Mem → Prop) (mc ms : Nat) : List Frame → Array Value → State → State → Prop := fun below args s => vx_MQ below (QcM G PR) (XCM G PX) args s mc ms (fun q => gB G ≤ q)
def nX : String → Mem → Prop := fun _ _ => False
def rI (P : Int32 → Mem → Prop) : Option Value → Mem → Prop := fun v M => ∃ r, v = some (.int r) ∧ P r M
def rV (P : Mem → Prop) : Option Value → Mem → Prop := fun v M => v = none ∧ P M
def rA (P : Nat → Mem → Prop) : Option Value → Mem → Prop := fun v M => ∃ r, v = some (.ref r) ∧ P r M
def rO (P : Option Nat → Mem → Prop) : Option Value → Mem → Prop := fun v M => ∃ r, v = some (va_rf r) ∧ P r M
def rJ (P : Int64 → Mem → Prop) : Option Value → Mem → Prop := fun v M => ∃ r, v = some (.long r) ∧ P r M
def rF (P : UInt32 → Mem → Prop) : Option Value → Mem → Prop := fun v M => ∃ r, v = some (.float r) ∧ P r M
def rD (P : UInt64 → Mem → Prop) : Option Value → Mem → Prop := fun v M => ∃ r, v = some (.double r) ∧ P r M
theorem pcm_blind {G : GC} {A : List Value} {M : Mem} : FrameBlind (PcM G A M) := fun _ _ _ _ h => h
theorem amb_of {G : GC} {mi : MI} {y : MethodName} {p : Program} {l : Launch} {rm : Room} {e : Env} {s : State} {m : MethodId} {args : Array Value} {below : List Frame} {meth : Method} {c : Code} {s₁ : State} (hcls : y.cls = mi.1) (hnm : y.name = mi.2.2.2.2.1)
    (B : BodyLoose p l y (headSpec (cwd mi y :: wG) rm) mi.2.1 mi.2.2.1 mi.2.2.2.1 e s m args below meth c s₁) (hml : c.maxLocals = mi.2.2.1) (hW : G.1.WarmedH s.vm) (hg : GOK G l) (ht : c.exceptionTable.toList = tableOf mi.2.2.2.2.2) {M : Mem} (hR : Rel G M s.heap) : Amb G mi p l s m args meth c :=
  ⟨B.exec, B.bytes, hml, by rw [← hcls]; exact findClass_of_methodNamed B.named, fun w hw => atoms_spec (ws := cwd mi y :: wG) B.pre w (List.mem_cons_of_mem _ hw), B.notSynchronized, hW, hg, B.returns, by rw [← hnm]; exact (name_of_methodNamed B.named B.method).1, ht, hR.2.2.1, by rw [hR.1]; exact hR.2.1⟩
theorem ht_intro {G : GC} {mi : MI} {y : MethodName} {d mc ms : Nat} {A : List Value} {M : Mem} {PR : Option Value → Mem → Prop} {PX : String → Mem → Prop} (hy : plainName y.cls = true) (hcls : y.cls = mi.1) (hnm : y.name = mi.2.2.2.2.1) (hh : mi.2.2.2.2.2 = [])
    (hlen : (lg_sl A).length ≤ mi.2.2.1) (body : SWG G mi (rmd d mc ms) (QF G PR PX mc ms) 0 (lv_args 0 A) [] M 0 0) : Ht G mi y d A M PR PX mc ms := by
  intro l hg
  have hcw : cwd mi y = Cond.code y mi.2.1 mi.2.2.1 mi.2.2.2.1 := by unfold cwd; rw [hh]
  refine vx_ofW (cc := mi.2.1) (maxL := mi.2.2.1) (ret := mi.2.2.2.1) (ws' := wG) hy (by rw [hcw]) ?_
  intro p e s m args below meth c s₁ B hml ht hP
  obtain ⟨rfl, hW, hR⟩ := hP
  have hempty : c.exceptionTable.toList = tableOf mi.2.2.2.2.2 := by
    rw [hh]
    cases hc : c.exceptionTable.toList with
    | nil => rfl
    | cons a r => exact (ht a (by rw [hc]; exact List.mem_cons_self)).elim
  rw [lg_entry_eq]
  exact body p l e s m _ below meth c (amb_of hcls hnm B hml hW hg hempty hR) _ _ _ (lh_of (lv_entry A hlen)) hR (fun q hq => nomatch hq)
theorem ht_introH {G : GC} {mi : MI} {y : MethodName} {d mc ms : Nat} {A : List Value} {M : Mem} {PR : Option Value → Mem → Prop} {PX : String → Mem → Prop} (hy : plainName y.cls = true) (hcls : y.cls = mi.1) (hnm : y.name = mi.2.2.2.2.1) (hcw : cwd mi y = Cond.codeWith y mi.2.1 mi.2.2.1 mi.2.2.2.1 mi.2.2.2.2.2)
    (hlen : (lg_sl A).length ≤ mi.2.2.1) (body : SWG G mi (rmd d mc ms) (QF G PR PX mc ms) 0 (lv_args 0 A) [] M 0 0) : Ht G mi y d A M PR PX mc ms := by
  intro l hg
  refine vx_ofWH (cc := mi.2.1) (maxL := mi.2.2.1) (ret := mi.2.2.2.1) (hh := mi.2.2.2.2.2) (ws' := wG) hy (by rw [hcw]) ?_
  intro p e s m args below meth c s₁ B hml hP
  obtain ⟨rfl, hW, hR⟩ := hP
  have ht := vx_table (x := y) B (atoms_spec (ws := cwd mi y :: wG) B.pre _ (by rw [hcw]; exact List.mem_cons_self))
  rw [lg_entry_eq]
  exact body p l e s m _ below meth c (amb_of hcls hnm B hml hW hg ht hR) _ _ _ (lh_of (lv_entry A hlen)) hR (fun q hq => nomatch hq)
/-- the contract weakened -/
theorem vx_met_weak {l : Launch} {y : MethodName} {ws : List Cond} {rm : Room} {Pc Pc' : Array Value → State → Prop} {Qc Qc' : Array Value → State → Outcome → State → Prop} {XC XC' : String → State → State → Prop} {mc ms : Nat} {free : Addr → Prop}
    (h : vx_Met l y ws rm Pc Qc XC mc ms free) (hp : ∀ a s, Pc' a s → Pc a s) (hq : ∀ a s o t, Qc a s o t → Qc' a s o t) (hx : ∀ E s t, XC E s t → XC' E s t) : vx_Met l y ws rm Pc' Qc' XC' mc ms free := by
  intro p e ha hc hk s m args below hf hm hP hT
  obtain ⟨k, o, h1, h2, h3, hQ⟩ := h p e ha hc hk s m args below hf hm (hp _ _ hP) hT
  refine ⟨k, o, h1, h2, h3, ?_⟩
  rcases hQ with ⟨q1, q2⟩ | ⟨q, e1, E, ce, L, hx1, r⟩
  · exact Or.inl ⟨hq _ _ _ _ q1, q2⟩
  · exact Or.inr ⟨q, e1, E, ce, L, hx _ _ _ hx1, r⟩
theorem ht_weak {G : GC} {mi : MI} {y : MethodName} {d mc ms : Nat} {A : List Value} {M : Mem} {PR PR' : Option Value → Mem → Prop} {PX PX' : String → Mem → Prop} (h : Ht G mi y d A M PR PX mc ms) (h1 : ∀ v M', PR v M' → PR' v M') (h2 : ∀ E M', PX E M' → PX' E M') : Ht G mi y d A M PR' PX' mc ms :=
  fun l hg => vx_met_weak (h l hg) (fun _ _ h => h) (fun _ _ _ _ ⟨v, M', a, b, c⟩ => ⟨v, M', a, b, h1 _ _ c⟩) (fun _ _ _ ⟨M', a, b⟩ => ⟨M', a, h2 _ _ b⟩)
end CT0
section CT1
variable {G : GC} {mi : MI} {R : Room} {Qf : List Frame → Array Value → State → State → Prop} {pc : Nat} {L : List (Nat × Value)} {st : List Value} {M : Mem} {kc ks : Nat}
theorem wpay {s : State} {args : Array Value} (hts : ∀ w ∈ wG, w.before args s = true) : ∀ w ∈ wG, ∀ (a' : Array Value) (U : State), s.WarmedH U.vm → w.before a' U = true := fun w hw a' U hW => word_at hW (good_of_word (wG_good w hw)) (hts w hw)
theorem callB_G {mi mi' : MI} {p : Program} {l : Launch} {s : State} {m : MethodId} {args : Array Value} {meth : Method} {c : Code} {G : GC} (E : Amb G mi p l s m args meth c) {R : Room} {idx n d mc ms : Nat} {y : MethodName} (cw : cwOK mi.1 mi' idx y n) (hcw : cwd mi' y = Cond.code y mi'.2.1 mi'.2.2.1 mi'.2.2.2.1) (hR : d + 1 ≤ R.frames ∧ 8 + (mi'.2.2.1 + 11) + 64 * d ≤ R.locals) :
    CallB R s args mi.1 idx y mi'.2.1 mi'.2.2.1 mi'.2.2.2.1 (cwd mi' y :: wG) (rmd d mc ms) mc ms n := by
  obtain ⟨h1, h2, h3, h4, h5⟩ := cw
  have hts := E.2.2.2.2.1
  refine ⟨rfl, rfl, hR.1, hR.2, fun w hw => ?_, by rw [hcw]; exact List.mem_cons_self, by rw [← hcw]; exact hts _ h2, hts _ h3, h4, fun sig h => ?_, hts _ h1⟩
  · rcases List.mem_cons.mp hw with h | h
    · rw [h]; exact wpay hts _ h2
    · exact wpay hts _ h
  · rw [h] at h5
    exact (Option.some.inj h5).symm
/-- what comes of a call: the two ways -/
theorem run_G {p : Program} {l : Launch} {e : Env} {s : State} {m : MethodId} {args : Array Value} {below : List Frame} {meth : Method} {c : Code} (E : Amb G mi p l s m args meth c) {ls : Array Slot} {H : Heap} {locs : List Loc} (hl : lh ls mi.2.2.1 L) (hf : ∀ q ∈ locs, gB G ≤ q.base) {PR : Option Value → Mem → Prop} {PX : String → Mem → Prop} {mc ms : Nat} {st0 : List Value} {a : Array Value}
    (hr : vx_Run p l e R s m args below meth c H locs kc ks mc ms (F0 m pc ls st0) st (QcM G PR a) (XCM G PX) (fun q => gB G ≤ q))
    (k : ∀ v M', PR v M' → SWG G mi R Qf (pc + 3) L (v.toList ++ st) M' (kc + mc) (ks + ms)) (kx : ∀ E M', PX E M' → SXG G mi R Qf pc L M' (kc + mc) (ks + ms) E) : W p l e R s m args below meth c H locs kc ks (Qf below args s) (F0 m pc ls st0) := by
  intro T hT X
  rcases hr T hT X with ⟨v, s0, t, T', L1, h0, X', hL, e1, e2, ⟨v', M', hv, hRel, hPR⟩, go⟩ | ⟨q, s0, t, T', L1, E1, ce, h0, X', hL, e1, e2, ⟨M', hRel, hPX⟩, hce, hcv, hcl, go⟩
  · cases hv
    obtain ⟨t2, a1, b1⟩ := k v M' hPR p l e s m args below meth c E ls T'.heap (locs ++ L1) hl (by rw [e1]; exact hRel) (fun q hq => (List.mem_append.mp hq).elim (hf q) (hL q)) T' rfl X'
    exact ⟨t2, go t2 a1, b1⟩
  · obtain ⟨t2, a1, b1⟩ := kx E1 M' hPX p l e s m args below meth c E ls T'.heap (locs ++ L1) hl (by rw [e1]; exact hRel) (fun q hq => (List.mem_append.mp hq).elim (hf q) (hL q)) q ce st (by rw [e1]; exact hce) hcv hcl T' rfl X'
    exact ⟨t2, go.trans a1, b1⟩
theorem r_callS {mi' : MI} {idx n d mc ms : Nat} {y : MethodName} {A : List Value} {PR : Option Value → Mem → Prop} {PX : String → Mem → Prop} (cw : cwOK mi.1 mi' idx y n ∧ Cond.static y ∈ wG) (hd : decode mi.2.1 pc = .ok (.invokestatic idx, 3)) (h : Ht G mi' y d A M PR PX mc ms) (hcw : cwd mi' y = Cond.code y mi'.2.1 mi'.2.2.1 mi'.2.2.2.1 := by rfl) (hn : A.length = n := by rfl) (hR : d + 1 ≤ R.frames ∧ 8 + (mi'.2.2.1 + 11) + 64 * d ≤ R.locals := by exact ⟨Nat.le_of_ble_eq_true rfl, Nat.le_of_ble_eq_true rfl⟩) {st0 : List Value} (hs0 : st0 = A.reverse ++ st := by rfl) (hst : (st.map fun v => v.category).sum ≤ 8 := by exact Nat.le_of_ble_eq_true rfl) (hm : kc + mc ≤ R.cells ∧ ks + ms ≤ R.slots)
    (k : ∀ v M', PR v M' → SWG G mi R Qf (pc + 3) L (v.toList ++ st) M' (kc + mc) (ks + ms)) (kx : ∀ E M', PX E M' → SXG G mi R Qf pc L M' (kc + mc) (ks + ms) E) : SWG G mi R Qf pc L st0 M kc ks := by
  intro p l e s m args below meth c E ls H locs hl hRel hf
  refine run_G E hl hf (vx_runS (As := A) (Pc := PcM G A M) (g := F0 m pc ls st0) ⟨E.1, E.2.1, E.2.2.1, E.2.2.2.1, E.2.2.2.2.1⟩ (h l E.2.2.2.2.2.2.2.1) ⟨callB_G E cw.1 hcw hR, E.2.2.2.2.1 _ cw.2⟩ ⟨pcm_blind, fun U hU hW => ⟨rfl, State.WarmedH.trans E.2.2.2.2.2.2.1 hW, by rw [hU]; exact hRel⟩⟩ rfl hn hl.1 hs0 (by simpa [JFrame.monitorRoom] using hst) hd hm) k kx
theorem r_callV {mi' : MI} {idx n d mc ms b t : Nat} {y : MethodName} {A : List Value} {PR : Option Value → Mem → Prop} {PX : String → Mem → Prop} (cw : cwOK mi.1 mi' idx y n ∧ Cond.instanceMethod y ∈ wG ∧ Cond.selects (cR t) y y ∈ wG) (hd : decode mi.2.1 pc = .ok (.invokevirtual idx, 3)) (hc : mC M b = some (t, 0)) (h : Ht G mi' y d (.ref b :: A) M PR PX mc ms) (ht : t < 11 := by decide) (hcw : cwd mi' y = Cond.code y mi'.2.1 mi'.2.2.1 mi'.2.2.2.1 := by rfl) (hn : A.length = n := by rfl) (hR : d + 1 ≤ R.frames ∧ 8 + (mi'.2.2.1 + 11) + 64 * d ≤ R.locals := by exact ⟨Nat.le_of_ble_eq_true rfl, Nat.le_of_ble_eq_true rfl⟩) {st0 : List Value} (hs0 : st0 = A.reverse ++ .ref b :: st := by rfl) (hst : (st.map fun v => v.category).sum ≤ 8 := by exact Nat.le_of_ble_eq_true rfl) (hm : kc + mc ≤ R.cells ∧ ks + ms ≤ R.slots)
    (k : ∀ v M', PR v M' → SWG G mi R Qf (pc + 3) L (v.toList ++ st) M' (kc + mc) (ks + ms)) (kx : ∀ E M', PX E M' → SXG G mi R Qf pc L M' (kc + mc) (ks + ms) E) : SWG G mi R Qf pc L st0 M kc ks := by
  intro p l e s m args below meth c E ls H locs hl hRel hf
  have hrecv : ∃ cellB : Cell, H[b]? = some cellB ∧ cellB.vm.isStatics = false ∧ s.vm.findClass (cR t) = some cellB.cls := by
    obtain ⟨cell, q1, q2, q3, q4⟩ := ((hRel.2.2.2 b t 0 hc).2.2).1 ht
    exact ⟨cell, q1, by rw [q3]; rfl, by rw [q2]; exact (amb_kn E ht).2.1⟩
  refine run_G E hl hf (vx_runV (As := A) (C := cR t) (Pc := PcM G (.ref b :: A) M) (g := F0 m pc ls st0) ⟨E.1, E.2.1, E.2.2.1, E.2.2.2.1, E.2.2.2.2.1⟩ (h l E.2.2.2.2.2.2.2.1) ⟨callB_G E cw.1 hcw hR, E.2.2.2.2.1 _ cw.2.1, E.2.2.2.2.1 _ cw.2.2⟩ ⟨pcm_blind, hrecv, fun U hU hW => ⟨rfl, State.WarmedH.trans E.2.2.2.2.2.2.1 hW, by rw [hU]; exact hRel⟩⟩ rfl hn hl.1 hs0 (by simpa [JFrame.monitorRoom] using hst) hd hm) k kx
theorem r_callI {mi' : MI} {idx n d mc ms b : Nat} {y : MethodName} {A : List Value} {PR : Option Value → Mem → Prop} {PX : String → Mem → Prop} (cw : cwOK mi.1 mi' idx y n ∧ Cond.instanceMethod y ∈ wG) (hd : decode mi.2.1 pc = .ok (.invokespecial idx, 3)) (h : Ht G mi' y d (.ref b :: A) M PR PX mc ms) (hnm : y.name = "<init>" := by rfl) (hcw : cwd mi' y = Cond.code y mi'.2.1 mi'.2.2.1 none := by rfl) (hret : mi'.2.2.2.1 = none := by rfl) (hn : A.length = n := by rfl) (hR : d + 1 ≤ R.frames ∧ 8 + (mi'.2.2.1 + 11) + 64 * d ≤ R.locals := by exact ⟨Nat.le_of_ble_eq_true rfl, Nat.le_of_ble_eq_true rfl⟩) {st0 : List Value} (hs0 : st0 = A.reverse ++ .ref b :: st := by rfl) (hst : (st.map fun v => v.category).sum ≤ 8 := by exact Nat.le_of_ble_eq_true rfl) (hm : kc + mc ≤ R.cells ∧ ks + ms ≤ R.slots)
    (k : ∀ v M', PR v M' → SWG G mi R Qf (pc + 3) L (v.toList ++ st) M' (kc + mc) (ks + ms)) (kx : ∀ E M', PX E M' → SXG G mi R Qf pc L M' (kc + mc) (ks + ms) E) : SWG G mi R Qf pc L st0 M kc ks := by
  intro p l e s m args below meth c E ls H locs hl hRel hf
  have cb := callB_G E (R := R) (mc := mc) (ms := ms) cw.1 (by rw [hcw, hret]) hR
  rw [hret] at cb
  refine run_G E hl hf (vx_runI (As := A) (Pc := PcM G (.ref b :: A) M) (g := F0 m pc ls st0) ⟨E.1, E.2.1, E.2.2.1, E.2.2.2.1, E.2.2.2.2.1⟩ (h l E.2.2.2.2.2.2.2.1) ⟨cb, hnm, E.2.2.2.2.1 _ cw.2⟩ ⟨pcm_blind, fun U hU hW => ⟨rfl, State.WarmedH.trans E.2.2.2.2.2.2.1 hW, by rw [hU]; exact hRel⟩⟩ rfl hn hl.1 hs0 (by simpa [JFrame.monitorRoom] using hst) hd hm) k kx
theorem r_callSX {mi' : MI} {idx n d mc ms : Nat} {y : MethodName} {A : List Value} {PR : Option Value → Mem → Prop} {PX : String → Mem → Prop} (cw : cwOK mi.1 mi' idx y n ∧ Cond.static y ∈ wG) (hd : decode mi.2.1 pc = .ok (.invokestatic idx, 3)) (h : Ht G mi' y d A M PR PX mc ms) (hcw : cwd mi' y = Cond.codeWith y mi'.2.1 mi'.2.2.1 mi'.2.2.2.1 mi'.2.2.2.2.2 := by rfl) (hn : A.length = n := by rfl) (hR : d + 1 ≤ R.frames ∧ 8 + (mi'.2.2.1 + 11) + 64 * d ≤ R.locals := by exact ⟨Nat.le_of_ble_eq_true rfl, Nat.le_of_ble_eq_true rfl⟩) {st0 : List Value} (hs0 : st0 = A.reverse ++ st := by rfl) (hst : (st.map fun v => v.category).sum ≤ 8 := by exact Nat.le_of_ble_eq_true rfl) (hm : kc + mc ≤ R.cells ∧ ks + ms ≤ R.slots)
    (k : ∀ v M', PR v M' → SWG G mi R Qf (pc + 3) L (v.toList ++ st) M' (kc + mc) (ks + ms)) (kx : ∀ E M', PX E M' → SXG G mi R Qf pc L M' (kc + mc) (ks + ms) E) : SWG G mi R Qf pc L st0 M kc ks := by
  intro p l e s m args below meth c E ls H locs hl hRel hf
  obtain ⟨⟨h1, h2, h3, h4, h5⟩, h6⟩ := cw
  have hts := E.2.2.2.2.1
  refine run_G E hl hf (vx_runSX (hh := mi'.2.2.2.2.2) (bytes := mi'.2.1) (maxL := mi'.2.2.1) (ret := mi'.2.2.2.1) (n := n) (own := mi.1) (index := idx) (As := A) (Pc := PcM G A M) (g := F0 m pc ls st0) ⟨E.1, E.2.1, E.2.2.1, E.2.2.2.1, E.2.2.2.2.1⟩ (h l E.2.2.2.2.2.2.2.1) ⟨⟨rfl, rfl, hR.1, hR.2, fun w hw => ?_, by rw [hcw]; exact List.mem_cons_self⟩, by rw [← hcw]; exact hts _ h2, hts _ h3, h4, fun sig hs => ?_, hts _ h1, hts _ h6⟩ ⟨pcm_blind, fun U hU hW => ⟨rfl, State.WarmedH.trans E.2.2.2.2.2.2.1 hW, by rw [hU]; exact hRel⟩⟩ rfl hn hl.1 hs0 (by simpa [JFrame.monitorRoom] using hst) hd hm) k kx
  · rcases List.mem_cons.mp hw with h | h
    · rw [h]; exact wpay hts _ h2
    · exact wpay hts _ h
  · rw [hs] at h5
    exact (Option.some.inj h5).symm
end CT1
section CT2
variable {G : GC} {mi : MI} {R : Room} {Qf : List Frame → Array Value → State → State → Prop} {pc : Nat} {L : List (Nat × Value)} {st : List Value} {M : Mem} {kc ks : Nat} {PR : Option Value → Mem → Prop} {PX : String → Mem → Prop} {mc ms : Nat}
/-- thrown by a callee, not caught here -/
theorem r_out {E : String} (hh : mi.2.2.2.2.2 = [] := by rfl) (hx : PX E M) (hm : kc ≤ mc ∧ ks ≤ ms) : SXG G mi R (QF G PR PX mc ms) pc L M kc ks E := by
  intro p l e s m args below meth c E0 ls H locs hl hRel hf q ce rest hq hv hcl
  refine vx_out (fun x hx => ?_) E0.2.2.2.2.2.1 hq hv hcl (fun t ht _ => ⟨M, by rw [ht]; exact hRel, hx⟩) hf hm.1 hm.2
  rw [E0.2.2.2.2.2.2.2.2.2.2.1, hh] at hx
  exact nomatch hx
/-- no exception comes -/
theorem r_nox {kc' ks' : Nat} : ∀ (E : String) (M' : Mem), nX E M' → SXG G mi R Qf pc L M' kc' ks' E := fun _ _ h => h.elim
theorem r_iret {x : Int32} {ty : FieldType} (d : decode mi.2.1 pc = .ok (.ireturn, 1)) (hP : PR (some (.int x)) M) (hr : mi.2.2.2.1 = some ty := by rfl) (hn : narrow ty (.int x) = .int x := by rfl) (hm : kc ≤ mc ∧ ks ≤ ms := by first | exact ⟨Nat.le_refl _, Nat.le_refl _⟩ | (constructor <;> omega)) : SWG G mi R (QF G PR PX mc ms) pc L [.int x] M kc ks := by
  intro p l e s m args below meth c E ls H locs hl hRel hf
  refine W.widen hm.1 hm.2 (vx_ret ?_)
  exact W.zret E.1 E.2.1 (E.2.2.2.2.2.2.2.2.1.trans hr) hn (fun t ht _ => ⟨_, M, rfl, by rw [ht]; exact hRel, hP⟩) hf d E.2.2.2.2.2.1
theorem r_zret {x : Bool} (d : decode mi.2.1 pc = .ok (.ireturn, 1)) (hP : PR (some (.int (bz x))) M) (hr : mi.2.2.2.1 = some .boolean := by rfl) (hm : kc ≤ mc ∧ ks ≤ ms := by first | exact ⟨Nat.le_refl _, Nat.le_refl _⟩ | (constructor <;> omega)) : SWG G mi R (QF G PR PX mc ms) pc L [.int (bz x)] M kc ks := r_iret d hP hr (bz_narrow x) hm
theorem r_vret (d : decode mi.2.1 pc = .ok (.return_, 1)) (hP : PR none M) (hr : mi.2.2.2.1 = none := by rfl) (hm : kc ≤ mc ∧ ks ≤ ms := by first | exact ⟨Nat.le_refl _, Nat.le_refl _⟩ | (constructor <;> omega)) : SWG G mi R (QF G PR PX mc ms) pc L [] M kc ks := by
  intro p l e s m args below meth c E ls H locs hl hRel hf
  refine W.widen hm.1 hm.2 (vx_ret ?_)
  exact W.vret E.1 E.2.1 (E.2.2.2.2.2.2.2.2.1.trans hr) (fun t ht _ => ⟨_, M, rfl, by rw [ht]; exact hRel, hP⟩) hf d E.2.2.2.2.2.1
theorem r_aret {x : Nat} {ty : FieldType} (d : decode mi.2.1 pc = .ok (.areturn, 1)) (hP : PR (some (.ref x)) M) (hr : mi.2.2.2.1 = some ty := by rfl) (hty : (∃ n, ty = .object n) ∨ ∃ t, ty = .array t := by first | exact Or.inl ⟨_, rfl⟩ | exact Or.inr ⟨_, rfl⟩) (hm : kc ≤ mc ∧ ks ≤ ms := by first | exact ⟨Nat.le_refl _, Nat.le_refl _⟩ | (constructor <;> omega)) : SWG G mi R (QF G PR PX mc ms) pc L [.ref x] M kc ks := by
  intro p l e s m args below meth c E ls H locs hl hRel hf
  refine W.widen hm.1 hm.2 (vx_ret ?_)
  exact W.aret E.1 E.2.1 (E.2.2.2.2.2.2.2.2.1.trans hr) hty (Or.inr ⟨x, rfl⟩) (fun t ht _ => ⟨_, M, rfl, by rw [ht]; exact hRel, hP⟩) hf d E.2.2.2.2.2.1
theorem r_aretN {ty : FieldType} (d : decode mi.2.1 pc = .ok (.areturn, 1)) (hP : PR (some .null) M) (hr : mi.2.2.2.1 = some ty := by rfl) (hty : (∃ n, ty = .object n) ∨ ∃ t, ty = .array t := by first | exact Or.inl ⟨_, rfl⟩ | exact Or.inr ⟨_, rfl⟩) (hm : kc ≤ mc ∧ ks ≤ ms := by first | exact ⟨Nat.le_refl _, Nat.le_refl _⟩ | (constructor <;> omega)) : SWG G mi R (QF G PR PX mc ms) pc L [.null] M kc ks := by
  intro p l e s m args below meth c E ls H locs hl hRel hf
  refine W.widen hm.1 hm.2 (vx_ret ?_)
  exact W.aret E.1 E.2.1 (E.2.2.2.2.2.2.2.2.1.trans hr) hty (Or.inl rfl) (fun t ht _ => ⟨_, M, rfl, by rw [ht]; exact hRel, hP⟩) hf d E.2.2.2.2.2.1
theorem r_lret {x : Int64} (d : decode mi.2.1 pc = .ok (.lreturn, 1)) (hP : PR (some (.long x)) M) (hr : mi.2.2.2.1 = some .long := by rfl) (hm : kc ≤ mc ∧ ks ≤ ms := by first | exact ⟨Nat.le_refl _, Nat.le_refl _⟩ | (constructor <;> omega)) : SWG G mi R (QF G PR PX mc ms) pc L [.long x] M kc ks := by
  intro p l e s m args below meth c E ls H locs hl hRel hf
  refine W.widen hm.1 hm.2 (vx_ret ?_)
  exact W.lret E.1 E.2.1 (E.2.2.2.2.2.2.2.2.1.trans hr) (fun t ht _ => ⟨_, M, rfl, by rw [ht]; exact hRel, hP⟩) hf d E.2.2.2.2.2.1
theorem r_fret {x : UInt32} (d : decode mi.2.1 pc = .ok (.freturn, 1)) (hP : PR (some (.float x)) M) (hr : mi.2.2.2.1 = some .float := by rfl) (hm : kc ≤ mc ∧ ks ≤ ms := by first | exact ⟨Nat.le_refl _, Nat.le_refl _⟩ | (constructor <;> omega)) : SWG G mi R (QF G PR PX mc ms) pc L [.float x] M kc ks := by
  intro p l e s m args below meth c E ls H locs hl hRel hf
  refine W.widen hm.1 hm.2 (vx_ret ?_)
  exact W.fret E.1 E.2.1 (E.2.2.2.2.2.2.2.2.1.trans hr) (fun t ht _ => ⟨_, M, rfl, by rw [ht]; exact hRel, hP⟩) hf d E.2.2.2.2.2.1
theorem r_dret {x : UInt64} (d : decode mi.2.1 pc = .ok (.dreturn, 1)) (hP : PR (some (.double x)) M) (hr : mi.2.2.2.1 = some .double := by rfl) (hm : kc ≤ mc ∧ ks ≤ ms := by first | exact ⟨Nat.le_refl _, Nat.le_refl _⟩ | (constructor <;> omega)) : SWG G mi R (QF G PR PX mc ms) pc L [.double x] M kc ks := by
  intro p l e s m args below meth c E ls H locs hl hRel hf
  refine W.widen hm.1 hm.2 (vx_ret ?_)
  exact W.dret E.1 E.2.1 (E.2.2.2.2.2.2.2.2.1.trans hr) (fun t ht _ => ⟨_, M, rfl, by rw [ht]; exact hRel, hP⟩) hf d E.2.2.2.2.2.1
end CT2
