/-! Tables of the classes, methods and words: what the link rows speak of. -/
section TABS
/-- the kinds of objects: Grid 0, House 1, Parcel 2, Pass 3, Round 4, Street 5, Walk 6, Ways 7, Candleford 8, CandlefordModel 9, ArrayList 10; of arrays: int 11, boolean 12, Object 13, long 14, double 15, the script 16, the list's empty row 17 -/
def mcl : List vw_C := [(RX0, TX0, 3), (RX1, TX1, 5), (RX2, TX2, 4), (RX3, TX3, 6), (RX4, TX4, 1), (RX5, TX5, 7), (RX6, TX6, 7), (RX7, TX7, 3), (RX8, TX8, 13), (RX9, TX9, 37), (RJx4a65c, TJx4a65c, 3)]
def cR (t : Nat) : String := match t with | 0 => RX0 | 1 => RX1 | 2 => RX2 | 3 => RX3 | 4 => RX4 | 5 => RX5 | 6 => RX6 | 7 => RX7 | 8 => RX8 | 9 => RX9 | _ => RJx4a65c
def cT (t : Nat) : u_T := match t with | 0 => TX0 | 1 => TX1 | 2 => TX2 | 3 => TX3 | 4 => TX4 | 5 => TX5 | 6 => TX6 | 7 => TX7 | 8 => TX8 | 9 => TX9 | _ => TJx4a65c
def cY (t : Nat) : Nat → FieldType := match t with | 0 => tyX0 | 1 => tyX1 | 2 => tyX2 | 3 => tyX3 | 4 => tyX4 | 5 => tyX5 | 6 => tyX6 | 7 => tyX7 | 8 => tyX8 | 9 => tyX9 | _ => tyJx4a65c
def cK (t : Nat) : Nat := match t with | 0 => 3 | 1 => 5 | 2 => 4 | 3 => 6 | 4 => 1 | 5 => 7 | 6 => 7 | 7 => 3 | 8 => 13 | 9 => 37 | _ => 3
theorem cT_nm : ∀ t, t < 11 → ∀ a, a < cK t → ∀ b, b < cK t → a ≠ b → (cT t a).2.1 ≠ (cT t b).2.1 := by decide +kernel
theorem cT_ty : ∀ t, t < 11 → ∀ k, k < cK t → parseFieldDescriptor (cT t k).2.2.1 = some (cY t k) := by decide +kernel
theorem cT_in : ∀ t, t < 11 → ∀ w ∈ u_ws (cR t) (cT t) (cK t), w ∈ lw_tbl := by decide +kernel
theorem cK_lt : ∀ t, t < 11 → cK t < 64 := by decide +kernel
/-- a method: its class, code, locals, answer, name, handlers -/
abbrev MI : Type := String × ByteArray × Nat × Option FieldType × String × List (Nat × Nat × Nat × Nat)
def wG : List Cond := lw_tbl.filter goodWord
theorem wG_of {w : Cond} (h : w ∈ lw_tbl) (g : goodWord w = true) : w ∈ wG := List.mem_filter.mpr ⟨h, g⟩
theorem wG_in : ∀ w ∈ wG, w ∈ lw_tbl := fun _ h => (List.mem_filter.mp h).1
theorem wG_good : ∀ w ∈ wG, goodWord w = true := fun _ h => (List.mem_filter.mp h).2
def sels_n : Nat := 69
theorem wG_at (i : Nat) {w : Cond} (h : lw_tbl[i]? = some w ∧ goodWord w = true) : w ∈ wG := wG_of (List.mem_of_getElem? h.1) h.2
theorem cT_gd : ∀ t, t < 11 → ∀ w ∈ u_ws (cR t) (cT t) (cK t), goodWord w = true := by decide +kernel
theorem cT_inG : ∀ t, t < 11 → ∀ w ∈ u_ws (cR t) (cT t) (cK t), w ∈ wG := fun t ht w hw => wG_of (cT_in t ht w hw) (cT_gd t ht w hw)
theorem cT_same : ∀ t, t < 11 → ∀ k, k < cK t → (cT t k).1 = cR t ∨ Cond.sameField (cR t) (cT t k).1 (cT t k).2.1 (cT t k).2.2.1 ∈ lw_tbl := by decide +kernel
def cwd (mi : MI) (y : MethodName) : Cond := match mi.2.2.2.2.2 with
  | [] => Cond.code y mi.2.1 mi.2.2.1 mi.2.2.2.1
  | hh => Cond.codeWith y mi.2.1 mi.2.2.1 mi.2.2.2.1 hh
/-- the words of a call -/
def cwOK (own : String) (mi' : MI) (idx : Nat) (y : MethodName) (n : Nat) : Prop := Cond.methodLink own idx y ∈ wG ∧ cwd mi' y ∈ wG ∧ Cond.initialized y.cls ∈ wG ∧ (y.cls ≠ "java/lang/invoke/MethodHandle" ∧ y.cls ≠ "java/lang/invoke/VarHandle") ∧ (parseMethodDescriptor y.desc).map (fun d => d.parameters.length) = some n
abbrev gcN : MethodName := ⟨"java/lang/Object", "getClass", "()Ljava/lang/Class;"⟩
end TABS
