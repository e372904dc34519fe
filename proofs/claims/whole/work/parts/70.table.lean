/-! The law's switch. -/
section TAB
variable {G : GC} {mi : MI} {R : Room} {Qf : List Frame → Array Value → State → State → Prop} {pc : Nat} {L : List (Nat × Value)} {st : List Value} {M : Mem} {kc ks : Nat}
theorem r_tabOut {dflt lo hi : Int} {offs : Array Int} {len : Nat} {x : Int} {tgt : Nat} (d : decode mi.2.1 pc = .ok (.tableswitch dflt lo hi offs, len)) (hx : inR x) (h : x < lo ∨ hi < x) (ht : (pc : Int) + dflt = (tgt : Int)) (k : SWG G mi R Qf tgt L st M kc ks) : SWG G mi R Qf pc L (.int (iz x) :: st) M kc ks := by
  intro p l e s m args below meth c E ls H locs hl hR hf
  exact lv_tableOut E.1 E.2.1 d (by rw [iz_toInt hx]; exact h) ht (k p l e s m args below meth c E ls H locs hl hR hf)
theorem r_tabIn {dflt lo hi : Int} {offs : Array Int} {len : Nat} {x off : Int} {tgt : Nat} (d : decode mi.2.1 pc = .ok (.tableswitch dflt lo hi offs, len)) (hx : inR x) (h1 : lo ≤ x) (h2 : x ≤ hi) (ho : offs[(x - lo).toNat]? = some off) (ht : (pc : Int) + off = (tgt : Int)) (k : SWG G mi R Qf tgt L st M kc ks) : SWG G mi R Qf pc L (.int (iz x) :: st) M kc ks := by
  intro p l e s m args below meth c E ls H locs hl hR hf
  exact lv_tableIn E.1 E.2.1 d (by rw [iz_toInt hx]; omega) (by rw [iz_toInt hx]; omega) (by rw [iz_toInt hx]; exact ho) ht (k p l e s m args below meth c E ls H locs hl hR hf)
end TAB
