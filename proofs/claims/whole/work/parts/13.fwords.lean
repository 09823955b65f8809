/-! FLOATS: guards against a NaN, end rows -/
def nn32 (r : UInt32) : Bool := decide (r &&& 0x7fffffff ≤ 0x7f800000)
def nn64 (r : UInt64) : Bool := decide (r &&& 0x7fffffffffffffff ≤ 0x7ff0000000000000)
theorem nn32_ok {r : UInt32} (h : nn32 r = true) : vf_n32 r := by simpa [nn32, vf_n32] using h
theorem nn64_ok {r : UInt64} (h : nn64 r = true) : vf_n64 r := by simpa [nn64, vf_n64] using h
def gq_ {β : Type} (b : Bool) (a : Option β) : Option β := match b with | true => a | false => none
theorem gq_go {β : Type} {b : Bool} {a : Option β} {r : β} (h : gq_ b a = some r) : b = true ∧ a = some r := by
  cases b with
  | true => exact ⟨rfl, h⟩
  | false => exact absurd h (by simp [gq_])
abbrev Qf (G : Geo) (x y : Mem) (v : UInt32) : Array Value → State → Outcome → State → Prop := va_Qf (fun u (_ : Unit) => u = v) (fun _ t => Wh G x y t.heap) (gF G)
abbrev Qd (G : Geo) (x y : Mem) (v : UInt64) : Array Value → State → Outcome → State → Prop := va_Qd (fun u (_ : Unit) => u = v) (fun _ t => Wh G x y t.heap) (gF G)
abbrev QXf (G : Geo) (r : Nat × UInt32 × Mem) (y : Mem) : Array Value → State → Outcome → State → Prop := va_Qf (fun u (_ : Unit) => r.1 = 0 ∧ u = r.2.1) (fun _ t => Wh G r.2.2 y t.heap) (gF G)
abbrev QXd (G : Geo) (r : Nat × UInt64 × Mem) (y : Mem) : Array Value → State → Outcome → State → Prop := va_Qd (fun u (_ : Unit) => r.1 = 0 ∧ u = r.2.1) (fun _ t => Wh G r.2.2 y t.heap) (gF G)
abbrev XQg {β : Type} (G : Geo) (r : Nat × β × Mem) (y : Mem) : String → State → State → Prop := vx_X (fun _ : Unit => True) (fun E _ t => ¬ r.1 = 0 ∧ E = exN r.1 ∧ Wh G r.2.2 y t.heap) (gF G)
def bxg_ {β : Type} (d : β) (a : Option (Nat × Int32 × Mem)) (k : Int32 → Mem → Option (Nat × β × Mem)) : Option (Nat × β × Mem) := match a with | none => none | some r => match r.1 with | 0 => k r.2.1 r.2.2 | c + 1 => some (c + 1, d, r.2.2)
theorem bxg_go {β : Type} {d : β} {a : Option (Nat × Int32 × Mem)} {k : Int32 → Mem → Option (Nat × β × Mem)} {r : Nat × β × Mem} (h : bxg_ d a k = some r) : (∃ v z, a = some (0, v, z) ∧ k v z = some r) ∨ ∃ c v z, ¬ c = 0 ∧ a = some (c, v, z) ∧ (c, d, z) = r := by
  cases a with
  | none => exact absurd h (by simp [bxg_])
  | some q =>
    obtain ⟨c, v, z⟩ := q
    cases c with
    | zero => exact Or.inl ⟨v, z, rfl, h⟩
    | succ c => exact Or.inr ⟨c + 1, v, z, by omega, rfl, Option.some.inj h⟩
section FR
variable {p : Program} {l : Launch} {e : Env} {R : Room} {s : State} {m : MethodId} {args : Array Value} {below : List Frame} {meth : Method} {c : Code} {H : Heap} {locs : List Loc} {cells slots : Nat} {Q : State → Prop} {cc : ByteArray} {pc : Nat} {ls : Array Slot} {rest : List Value} {G : Geo} {x y : Mem}
theorem rt_f {v : UInt32} (hx : p.tables.exec = Jvm.exec) (hb : c.code = cc) (hr : meth.sig.returnType = some .float) (hlocks : meth.locks = false) (hW : Wh G x y H) (hS : va_S (gF G) s.heap H locs) (hdg : decode cc pc = .ok (.freturn, 1)) : W p l e R s m args below meth c H locs cells slots (MQ below (Qf G x y v) args s cells slots (gF G)) (F0 m pc ls [.float v]) :=
  W.fret hx hb hr (fun t ht hW9 => ⟨⟨v, (), rfl, rfl, by show Wh G x y t.heap; rw [ht]; exact hW⟩, hS.F ht⟩) hS.2.2 hdg
theorem rt_d {v : UInt64} (hx : p.tables.exec = Jvm.exec) (hb : c.code = cc) (hr : meth.sig.returnType = some .double) (hlocks : meth.locks = false) (hW : Wh G x y H) (hS : va_S (gF G) s.heap H locs) (hdg : decode cc pc = .ok (.dreturn, 1)) : W p l e R s m args below meth c H locs cells slots (MQ below (Qd G x y v) args s cells slots (gF G)) (F0 m pc ls [.double v]) :=
  W.dret hx hb hr (fun t ht hW9 => ⟨⟨v, (), rfl, rfl, by show Wh G x y t.heap; rw [ht]; exact hW⟩, hS.F ht⟩) hS.2.2 hdg
theorem rtx_f {v : UInt32} {k n : Nat} (hx : p.tables.exec = Jvm.exec) (hb : c.code = cc) (hr : meth.sig.returnType = some .float) (hlocks : meth.locks = false) (hW : Wh G x y H) (hS : va_S (gF G) s.heap H locs) (hdg : decode cc pc = .ok (.freturn, 1)) : W p l e R s m args below meth c H locs k n (MQ below (QXf G (0, v, x) y) args s k n (gF G)) (F0 m pc ls [.float v]) :=
  W.fret hx hb hr (fun t ht hW9 => ⟨⟨v, (), rfl, ⟨rfl, rfl⟩, by show Wh G x y t.heap; rw [ht]; exact hW⟩, hS.F ht⟩) hS.2.2 hdg
theorem rtx_d {v : UInt64} {k n : Nat} (hx : p.tables.exec = Jvm.exec) (hb : c.code = cc) (hr : meth.sig.returnType = some .double) (hlocks : meth.locks = false) (hW : Wh G x y H) (hS : va_S (gF G) s.heap H locs) (hdg : decode cc pc = .ok (.dreturn, 1)) : W p l e R s m args below meth c H locs k n (MQ below (QXd G (0, v, x) y) args s k n (gF G)) (F0 m pc ls [.double v]) :=
  W.dret hx hb hr (fun t ht hW9 => ⟨⟨v, (), rfl, ⟨rfl, rfl⟩, by show Wh G x y t.heap; rw [ht]; exact hW⟩, hS.F ht⟩) hS.2.2 hdg
end FR
