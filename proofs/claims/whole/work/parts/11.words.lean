/-! MODEL WORDS, end rows, words of calls -/
def lt_ {α β : Type} (a : α) (k : α → β) : β := k a
def bd_ {α β : Type} (a : Option α) (k : α → Option β) : Option β := match a with | none => none | some v => k v
def bd2_ {α β : Type} (a : Option (α × Mem)) (k : α → Mem → Option β) : Option β := match a with | none => none | some v => k v.1 v.2
def inR (i : Int32) (n : Nat) : Bool := decide (¬ i < 0) && decide (i.toNatClampNeg < n)
def gd_ {β : Type} (i : Int32) (n : Nat) (a : Option β) : Option β := match inR i n with | true => a | false => none
def gb_ {β : Type} (v : Int32) (a : Option β) : Option β := match isB v with | true => a | false => none
def shl32 (a b : Int32) : Int32 := a <<< (b &&& 31)
def sar32 (a b : Int32) : Int32 := a >>> (b &&& 31)
def rem32 (a b : Int32) : Int32 := a - a / b * b
def FU : Nat := 4000
theorem lt_go {α β : Type} {v x1 : α} {k : α → β} {o : β} (h : lt_ v k = o) (e : x1 = v) : k x1 = o := by subst e; exact h
theorem bd_go {α β : Type} {a : Option α} {k : α → Option β} {r : β} (h : bd_ a k = some r) : ∃ v, a = some v ∧ k v = some r := by
  cases a with
  | none => exact absurd h (by simp [bd_])
  | some v => exact ⟨v, rfl, h⟩
theorem bd2_go {α β : Type} {a : Option (α × Mem)} {k : α → Mem → Option β} {r : β} (h : bd2_ a k = some r) : ∃ v z, a = some (v, z) ∧ k v z = some r := by
  cases a with
  | none => exact absurd h (by simp [bd2_])
  | some v => exact ⟨v.1, v.2, rfl, h⟩
theorem inR_in {i : Int32} {n : Nat} (h : inR i n = true) : vp_in i n := by
  simp only [inR, Bool.and_eq_true, decide_eq_true_eq] at h
  rintro (a | a)
  · exact h.1 a
  · omega
theorem gd_go {β : Type} {i : Int32} {n : Nat} {a : Option β} {r : β} (h : gd_ i n a = some r) : vp_in i n ∧ a = some r := by
  unfold gd_ at h
  cases hi : inR i n with
  | true => rw [hi] at h; exact ⟨inR_in hi, h⟩
  | false => rw [hi] at h; exact absurd h (by simp)
theorem gb_go {β : Type} {v : Int32} {a : Option β} {r : β} (h : gb_ v a = some r) : isB v = true ∧ a = some r := by
  unfold gb_ at h
  cases hi : isB v with
  | true => rw [hi] at h; exact ⟨rfl, h⟩
  | false => rw [hi] at h; exact absurd h (by simp)
theorem it_t {α : Type} {c : Prop} [Decidable c] {a b o : α} (h : (if c then a else b) = o) (hc : c) : a = o := by rw [if_pos hc] at h; exact h
theorem it_f {α : Type} {c : Prop} [Decidable c] {a b o : α} (h : (if c then a else b) = o) (hc : ¬ c) : b = o := by rw [if_neg hc] at h; exact h
theorem no_go {α : Type} {r : α} {P : Prop} (h : (none : Option α) = some r) : P := by cases h
abbrev Pw (G : Geo) (x y : Mem) (av : List Value) : Array Value → State → Prop := va_Pc av (fun U => Kt G U ∧ Wh G x y U.heap)
abbrev Qi (G : Geo) (x y : Mem) (v : Int32) : Array Value → State → Outcome → State → Prop := va_Qi (fun u (_ : Unit) => u = v) (fun _ t => Wh G x y t.heap) (gF G)
abbrev Qv (G : Geo) (x y : Mem) : Array Value → State → Outcome → State → Prop := va_Qv (fun _ : Unit => True) (fun _ t => Wh G x y t.heap) (gF G)
abbrev Qr (G : Geo) (x y : Mem) (a0 : Nat) : Array Value → State → Outcome → State → Prop := va_Qr (fun _ : Unit => True) (fun _ a t => a = a0 ∧ Wh G x y t.heap) (gF G)
theorem nestW_ok : ∀ w ∈ nestW, w.onTables = true := by decide +kernel
theorem Kt.calling {G : Geo} {U : State} {g : JFrame} {mk : MethodId} {a : Array Value} (h : Kt G U) : Kt G (U.calling g mk a) := ⟨va_K.moved (u := U) (U := U.calling g mk a) (Vm.Alike.refl U.vm) h.1, fun w hw => va_Nw.same (u := U) (U := U.calling g mk a) (nestW_ok w hw) rfl (h.2 w hw)⟩
theorem Kt.warm {G : Geo} {s U : State} (h : Kt G s) (hW : s.WarmedH U.vm) : Kt G U := by
  refine ⟨va_K.moved hW.alike h.1, fun w hw => ?_⟩
  have h1 := h.2 w hw
  simp only [nestW, List.mem_cons, List.not_mem_nil, or_false] at hw
  rcases hw with rfl | rfl | rfl | rfl | rfl | rfl | rfl <;> exact va_Nw.warmM hW h1
theorem wsG_ok {w : Cond} (h : w ∈ wsG) : (w.onTables && w.keeps) = true ∨ ∃ ty, w = .arrayClass ty := good_of_word (List.all_eq_true.mp wsG_good w h)
theorem gd_all {b : Cond} (hb : b ∈ wsG) : GoodIn wsG (b :: wsG) := fun w h => by
  rcases List.mem_cons.mp h with rfl | h
  · exact ⟨hb, wsG_ok hb⟩
  · exact ⟨h, wsG_ok h⟩
theorem gd_N {b : Cond} (hb : b ∈ wsG) : GoodIn wsG (b :: wsG) := gd_all hb
theorem gd_V {own C : String} {idx : Nat} {y : MethodName} {b : Cond} (h1 : Cond.methodLink own idx y ∈ wsG) (h2 : Cond.instanceMethod y ∈ wsG) (h3 : Cond.selects C y y ∈ wsG) (h4 : Cond.initialized C ∈ wsG) (hb : b ∈ wsG) : GoodIn wsG (wsV own idx C y (b :: wsG)) := fun w h => by
  simp only [wsV, List.cons_append, List.nil_append, List.mem_cons] at h
  rcases h with rfl | rfl | rfl | rfl | rfl | h <;> first | exact ⟨h1, wsG_ok h1⟩ | exact ⟨h2, wsG_ok h2⟩ | exact ⟨h3, wsG_ok h3⟩ | exact ⟨h4, wsG_ok h4⟩ | exact ⟨hb, wsG_ok hb⟩ | exact ⟨h, wsG_ok h⟩
theorem gd_S {own : String} {idx : Nat} {y : MethodName} {b : Cond} (h1 : Cond.methodLink own idx y ∈ wsG) (h2 : Cond.static y ∈ wsG) (h4 : Cond.initialized y.cls ∈ wsG) (hb : b ∈ wsG) : GoodIn wsG (va_wsS own idx y (b :: wsG)) := fun w h => by
  simp only [va_wsS, List.cons_append, List.nil_append, List.mem_cons] at h
  rcases h with rfl | rfl | rfl | rfl | h <;> first | exact ⟨h1, wsG_ok h1⟩ | exact ⟨h2, wsG_ok h2⟩ | exact ⟨h4, wsG_ok h4⟩ | exact ⟨hb, wsG_ok hb⟩ | exact ⟨h, wsG_ok h⟩
theorem nb0 : narrow .boolean (.int (0 : Int32)) = .int 0 := rfl
theorem nb1 : narrow .boolean (.int (1 : Int32)) = .int 1 := rfl
section RT
variable {p : Program} {l : Launch} {e : Env} {R : Room} {s : State} {m : MethodId} {args : Array Value} {below : List Frame} {meth : Method} {c : Code} {H : Heap} {locs : List Loc} {cells slots : Nat} {Q : State → Prop} {cc : ByteArray} {pc : Nat} {ls : Array Slot} {rest : List Value} {G : Geo} {x y : Mem} {H0 : Heap}
theorem rt_i {v : Int32} (hx : p.tables.exec = Jvm.exec) (hb : c.code = cc) (hr : meth.sig.returnType = some .int) (hlocks : meth.locks = false) (hW : Wh G x y H) (hS : va_S (gF G) s.heap H locs) (hdg : decode cc pc = .ok (.ireturn, 1)) : W p l e R s m args below meth c H locs cells slots (MQ below (Qi G x y v) args s cells slots (gF G)) (F0 m pc ls [.int v]) :=
  W.iret hx hb hr (fun t ht hW9 => ⟨⟨v, (), rfl, rfl, by show Wh G x y t.heap; rw [ht]; exact hW⟩, hS.F ht⟩) hS.2.2 hdg
theorem rt_z {v : Int32} (hx : p.tables.exec = Jvm.exec) (hb : c.code = cc) (hr : meth.sig.returnType = some .boolean) (hlocks : meth.locks = false) (hW : Wh G x y H) (hS : va_S (gF G) s.heap H locs) (hn : narrow .boolean (.int v) = .int v) (hdg : decode cc pc = .ok (.ireturn, 1)) : W p l e R s m args below meth c H locs cells slots (MQ below (Qi G x y v) args s cells slots (gF G)) (F0 m pc ls [.int v]) :=
  W.zret hx hb hr hn (fun t ht hW9 => ⟨⟨v, (), rfl, rfl, by show Wh G x y t.heap; rw [ht]; exact hW⟩, hS.F ht⟩) hS.2.2 hdg
theorem rt_v (hx : p.tables.exec = Jvm.exec) (hb : c.code = cc) (hr : meth.sig.returnType = none) (hlocks : meth.locks = false) (hW : Wh G x y H) (hS : va_S (gF G) s.heap H locs) (hdg : decode cc pc = .ok (.return_, 1)) : W p l e R s m args below meth c H locs cells slots (MQ below (Qv G x y) args s cells slots (gF G)) (F0 m pc ls []) :=
  W.vret hx hb hr (fun t ht hW9 => ⟨⟨(), rfl, trivial, by show Wh G x y t.heap; rw [ht]; exact hW⟩, hS.F ht⟩) hS.2.2 hdg
theorem rt_r {a : Nat} {C : String} (hx : p.tables.exec = Jvm.exec) (hb : c.code = cc) (hr : meth.sig.returnType = some (.object C)) (hlocks : meth.locks = false) (hW : Wh G x y H) (hS : va_S (gF G) s.heap H locs) (hdg : decode cc pc = .ok (.areturn, 1)) : W p l e R s m args below meth c H locs cells slots (MQ below (Qr G x y a) args s cells slots (gF G)) (F0 m pc ls [.ref a]) :=
  W.aret (v := .ref a) hx hb hr (Or.inl ⟨_, rfl⟩) (Or.inr ⟨_, rfl⟩) (fun t ht hW9 => ⟨⟨(), a, rfl, trivial, rfl, by show Wh G x y t.heap; rw [ht]; exact hW⟩, hS.F ht⟩) hS.2.2 hdg
theorem lv_ishl_ (hexec : p.tables.exec = Jvm.exec) (hb : c.code = cc) {x y : Int32} (hdg : decode cc pc = .ok (.ishl, 1)) (k : W p l e R s m args below meth c H locs cells slots Q (F0 m (pc + 1) ls (.int (shl32 x y) :: rest))) : W p l e R s m args below meth c H locs cells slots Q (F0 m pc ls (.int y :: .int x :: rest)) := lv_ishl hexec hb hdg k
theorem lv_ishr_ (hexec : p.tables.exec = Jvm.exec) (hb : c.code = cc) {x y : Int32} (hdg : decode cc pc = .ok (.ishr, 1)) (k : W p l e R s m args below meth c H locs cells slots Q (F0 m (pc + 1) ls (.int (sar32 x y) :: rest))) : W p l e R s m args below meth c H locs cells slots Q (F0 m pc ls (.int y :: .int x :: rest)) := lv_ishr hexec hb hdg k
theorem lv_irem_ (hexec : p.tables.exec = Jvm.exec) (hb : c.code = cc) {x y : Int32} (hdg : decode cc pc = .ok (.irem, 1)) (hne : ¬ y = 0) (k : W p l e R s m args below meth c H locs cells slots Q (F0 m (pc + 1) ls (.int (rem32 x y) :: rest))) : W p l e R s m args below meth c H locs cells slots Q (F0 m pc ls (.int y :: .int x :: rest)) := lv_irem hexec hb hdg hne k
theorem lv_tsIn {x v : Int32} {kI : Int} {dflt lo hi : Int} {offs : Array Int} {len : Nat} {off : Int} {tgt : Nat} (hexec : p.tables.exec = Jvm.exec) (hb : c.code = cc) (hdg : decode cc pc = .ok (.tableswitch dflt lo hi offs, len)) (hc : x = v) (hv : v.toInt = kI) (h1 : ¬ kI < lo) (h2 : ¬ hi < kI) (ho : offs[(kI - lo).toNat]? = some off) (ht : (pc : Int) + off = (tgt : Int)) (k : W p l e R s m args below meth c H locs cells slots Q (F0 m tgt ls rest)) : W p l e R s m args below meth c H locs cells slots Q (F0 m pc ls (.int x :: rest)) := by
  subst hc; subst hv
  exact lv_tableIn hexec hb hdg h1 h2 ho ht k
theorem ts_out {x : Int32} {n : Nat} (hn : n < 1000) (h : ∀ j : Nat, j ≤ n → ¬ x = Int32.ofNat j) : x.toInt < 0 ∨ (n : Int) < x.toInt := by
  rcases Int.lt_or_le x.toInt 0 with a | a
  · exact Or.inl a
  · right
    rcases Int.lt_or_le (n : Int) x.toInt with b | b
    · exact b
    · exfalso
      refine h x.toInt.toNat (by omega) ?_
      apply Int32.toInt_inj.mp
      rw [Int32.toInt_ofNat_of_lt (by omega)]
      omega
theorem lv_tsOut {x : Int32} {n : Nat} {dflt hi : Int} {offs : Array Int} {len : Nat} {tgt : Nat} (hexec : p.tables.exec = Jvm.exec) (hb : c.code = cc) (hdg : decode cc pc = .ok (.tableswitch dflt 0 hi offs, len)) (hn : n < 1000 ∧ hi = (n : Int)) (h : ∀ j : Nat, j ≤ n → ¬ x = Int32.ofNat j) (ht : (pc : Int) + dflt = (tgt : Int)) (k : W p l e R s m args below meth c H locs cells slots Q (F0 m tgt ls rest)) : W p l e R s m args below meth c H locs cells slots Q (F0 m pc ls (.int x :: rest)) :=
  lv_tableOut hexec hb hdg (by rw [hn.2]; exact ts_out hn.1 h) ht k
theorem lv_lkIn {x v : Int32} {dflt : Int} {ps : Array (Int × Int)} {len : Nat} {off : Int} {tgt : Nat} (hexec : p.tables.exec = Jvm.exec) (hb : c.code = cc) (hdg : decode cc pc = .ok (.lookupswitch dflt ps, len)) (hc : x = v) (hp : (ps.toList.zip (ps.toList.drop 1)).all (fun (a, next) => a.1 < next.1) = true) (ho : Op.lookupswitch.offset ps.toList dflt v.toInt = off) (ht : (pc : Int) + off = (tgt : Int)) (k : W p l e R s m args below meth c H locs cells slots Q (F0 m tgt ls rest)) : W p l e R s m args below meth c H locs cells slots Q (F0 m pc ls (.int x :: rest)) := by
  subst hc
  exact lv_lookup hexec hb hdg hp ho ht k
theorem lv_lkOut2 {x v1 v2 : Int32} {dflt a1 a2 b1 b2 : Int} {ps : Array (Int × Int)} {len : Nat} {tgt : Nat} (hexec : p.tables.exec = Jvm.exec) (hb : c.code = cc) (hdg : decode cc pc = .ok (.lookupswitch dflt ps, len)) (hps : ps = #[(a1, b1), (a2, b2)]) (hk : a1 < a2 ∧ v1.toInt = a1 ∧ v2.toInt = a2) (h1 : ¬ x = v1) (h2 : ¬ x = v2) (ht : (pc : Int) + dflt = (tgt : Int)) (k : W p l e R s m args below meth c H locs cells slots Q (F0 m tgt ls rest)) : W p l e R s m args below meth c H locs cells slots Q (F0 m pc ls (.int x :: rest)) := by
  obtain ⟨hk0, hk1, hk2⟩ := hk
  have e1 : ¬ a1 = x.toInt := fun z => h1 (Int32.toInt_inj.mp (by rw [hk1]; exact z.symm))
  have e2 : ¬ a2 = x.toInt := fun z => h2 (Int32.toInt_inj.mp (by rw [hk2]; exact z.symm))
  subst hps
  refine lv_lookup hexec hb hdg (by simp [hk0]) (off := dflt) ?_ ht k
  simp [Op.lookupswitch.offset, e1, e2]
def el_8 (a : Fin 10) (i : Int32) : Fin 10 × Fin 4 := (a, Fin.ofNat 4 i.toNatClampNeg)
theorem ae_8 (hx : p.tables.exec = Jvm.exec) (hb : c.code = cc) (hK : Kt G s) (hW : Wh G x y H) (a : Fin 10) {i : Int32} (hin : vp_in i 3) (hdg : decode cc pc = .ok (.aaload, 1)) (kk : W p l e R s m args below meth c H locs cells slots Q (F0 m (pc + 1) ls (.ref (gA G 0 ↑(el_8 a i).1 ↑(el_8 a i).2) :: rest))) : W p l e R s m args below meth c H locs cells slots Q (F0 m pc ls (.int i :: .ref (gA G 8 ↑a 0) :: rest)) := by
  have hlt : i.toNatClampNeg < 3 := Nat.not_le.mp fun q => hin (Or.inr q)
  refine al_8 hx hb hK hW a hin hdg ?_
  simpa [el_8, Fin.ofNat, Nat.mod_eq_of_lt (show i.toNatClampNeg < 4 by omega)] using kk
def el_11 (a : Fin 10) (i : Int32) : Fin 10 × Fin 4 := (a, Fin.ofNat 4 i.toNatClampNeg)
theorem ae_11 (hx : p.tables.exec = Jvm.exec) (hb : c.code = cc) (hK : Kt G s) (hW : Wh G x y H) (a : Fin 10) {i : Int32} (hin : vp_in i 3) (hdg : decode cc pc = .ok (.aaload, 1)) (kk : W p l e R s m args below meth c H locs cells slots Q (F0 m (pc + 1) ls (.ref (gA G 9 ↑(el_11 a i).1 ↑(el_11 a i).2) :: rest))) : W p l e R s m args below meth c H locs cells slots Q (F0 m pc ls (.int i :: .ref (gA G 11 ↑a 0) :: rest)) := by
  have hlt : i.toNatClampNeg < 3 := Nat.not_le.mp fun q => hin (Or.inr q)
  refine al_11 hx hb hK hW a hin hdg ?_
  simpa [el_11, Fin.ofNat, Nat.mod_eq_of_lt (show i.toNatClampNeg < 4 by omega)] using kk
def el_13 (a : Fin 10) (i : Int32) : Fin 10 × Fin 31 := (a, Fin.ofNat 31 i.toNatClampNeg)
theorem ae_13 (hx : p.tables.exec = Jvm.exec) (hb : c.code = cc) (hK : Kt G s) (hW : Wh G x y H) (a : Fin 10) {i : Int32} (hin : vp_in i 30) (hdg : decode cc pc = .ok (.aaload, 1)) (kk : W p l e R s m args below meth c H locs cells slots Q (F0 m (pc + 1) ls (.ref (gA G 12 ↑(el_13 a i).1 ↑(el_13 a i).2) :: rest))) : W p l e R s m args below meth c H locs cells slots Q (F0 m pc ls (.int i :: .ref (gA G 13 ↑a 0) :: rest)) := by
  have hlt : i.toNatClampNeg < 30 := Nat.not_le.mp fun q => hin (Or.inr q)
  refine al_13 hx hb hK hW a hin hdg ?_
  simpa [el_13, Fin.ofNat, Nat.mod_eq_of_lt (show i.toNatClampNeg < 31 by omega)] using kk
def el_16 (i : Int32) : Fin 10 := Fin.ofNat 10 (4 + i.toNatClampNeg)
theorem ae_16 (hx : p.tables.exec = Jvm.exec) (hb : c.code = cc) (hK : Kt G s) (hW : Wh G x y H) {i : Int32} (hin : vp_in i 6) (hdg : decode cc pc = .ok (.aaload, 1)) (kk : W p l e R s m args below meth c H locs cells slots Q (F0 m (pc + 1) ls (.ref (gA G 2 ↑(el_16 i) 0) :: rest))) : W p l e R s m args below meth c H locs cells slots Q (F0 m pc ls (.int i :: .ref (gA G 16 0 0) :: rest)) := by
  have hlt : i.toNatClampNeg < 6 := Nat.not_le.mp fun q => hin (Or.inr q)
  refine al_16 hx hb hK hW hin hdg ?_
  simpa [el_16, Fin.ofNat, Nat.mod_eq_of_lt (show i.toNatClampNeg < 10 by omega), Nat.mod_eq_of_lt (show 4 + i.toNatClampNeg < 10 by omega)] using kk
def el_24 (i : Int32) : Fin 28 := Fin.ofNat 28 (i.toNatClampNeg)
theorem ae_24 (hx : p.tables.exec = Jvm.exec) (hb : c.code = cc) (hK : Kt G s) (hW : Wh G x y H) {i : Int32} (hin : vp_in i 27) (hdg : decode cc pc = .ok (.aaload, 1)) (kk : W p l e R s m args below meth c H locs cells slots Q (F0 m (pc + 1) ls (.ref (gA G 25 0 ↑(el_24 i)) :: rest))) : W p l e R s m args below meth c H locs cells slots Q (F0 m pc ls (.int i :: .ref (gA G 24 0 0) :: rest)) := by
  have hlt : i.toNatClampNeg < 27 := Nat.not_le.mp fun q => hin (Or.inr q)
  refine al_24 hx hb hK hW hin hdg ?_
  simpa [el_24, Fin.ofNat, Nat.mod_eq_of_lt (show i.toNatClampNeg < 28 by omega)] using kk
def Ia (h : Nat × Nat × Nat) (n : Nat) : Prop := (h.1, h.2.1, h.2.2) ∈ ids ∧ ∀ (G : Geo) (g : Nat → Int32), shp G h.1 h.2.1 h.2.2 g = .inl (gT G 0, (n, .inl g))
theorem ia_1 (a : Fin 10 × Fin 4) : Ia (1, ↑a.1, ↑a.2) 30 := ⟨id_1 a, fun G g => rfl⟩
theorem ia_4 (a : Fin 10) : Ia (4, ↑a, 0) 8 := ⟨id_4 a, fun G g => rfl⟩
theorem ia_5 (a : Fin 10) : Ia (5, ↑a, 0) 8 := ⟨id_5 a, fun G g => rfl⟩
theorem ia_7 (a : Fin 10) : Ia (7, ↑a, 0) 96 := ⟨id_7 a, fun G g => rfl⟩
theorem ia_10 (a : Fin 10 × Fin 4) : Ia (10, ↑a.1, ↑a.2) 4 := ⟨id_10 a, fun G g => rfl⟩
theorem ia_18 : Ia (18, 0, 0) 3 := ⟨id_18, fun G g => rfl⟩
theorem ia_20 : Ia (20, 0, 0) 3 := ⟨id_20, fun G g => rfl⟩
theorem ia_21 : Ia (21, 0, 0) 3 := ⟨id_21, fun G g => rfl⟩
theorem ia_101 : Ia (101, 0, 0) 8 := ⟨id_101, fun G g => rfl⟩
theorem ia_102 : Ia (102, 0, 0) 8 := ⟨id_102, fun G g => rfl⟩
theorem ia_103 : Ia (103, 0, 0) 3 := ⟨id_103, fun G g => rfl⟩
theorem ia_104 : Ia (104, 0, 0) 3 := ⟨id_104, fun G g => rfl⟩
theorem ia_105 : Ia (105, 0, 0) 12 := ⟨id_105, fun G g => rfl⟩
theorem ia_106 : Ia (106, 0, 0) 3 := ⟨id_106, fun G g => rfl⟩
theorem ia_107 : Ia (107, 0, 0) 3 := ⟨id_107, fun G g => rfl⟩
theorem ia_108 : Ia (108, 0, 0) 3 := ⟨id_108, fun G g => rfl⟩
theorem ia_109 : Ia (109, 0, 0) 3 := ⟨id_109, fun G g => rfl⟩
theorem ia_110 : Ia (110, 0, 0) 3 := ⟨id_110, fun G g => rfl⟩
theorem ia_111 : Ia (111, 0, 0) 3 := ⟨id_111, fun G g => rfl⟩
theorem ia_112 : Ia (112, 0, 0) 90 := ⟨id_112, fun G g => rfl⟩
theorem ia_113 : Ia (113, 0, 0) 3 := ⟨id_113, fun G g => rfl⟩
theorem ia_114 : Ia (114, 0, 0) 3 := ⟨id_114, fun G g => rfl⟩
theorem ia_115 : Ia (115, 0, 0) 3 := ⟨id_115, fun G g => rfl⟩
theorem ia_116 : Ia (116, 0, 0) 3 := ⟨id_116, fun G g => rfl⟩
theorem ia_117 : Ia (117, 0, 0) 3 := ⟨id_117, fun G g => rfl⟩
theorem ia_118 : Ia (118, 0, 0) 3 := ⟨id_118, fun G g => rfl⟩
theorem ia_119 : Ia (119, 0, 0) 3 := ⟨id_119, fun G g => rfl⟩
theorem ia_120 : Ia (120, 0, 0) 3 := ⟨id_120, fun G g => rfl⟩
theorem ia_121 : Ia (121, 0, 0) 3 := ⟨id_121, fun G g => rfl⟩
theorem ia_122 : Ia (122, 0, 0) 30 := ⟨id_122, fun G g => rfl⟩
theorem ia_123 : Ia (123, 0, 0) 30 := ⟨id_123, fun G g => rfl⟩
theorem ia_124 : Ia (124, 0, 0) 30 := ⟨id_124, fun G g => rfl⟩
theorem ia_125 : Ia (125, 0, 0) 30 := ⟨id_125, fun G g => rfl⟩
theorem ia_126 : Ia (126, 0, 0) 30 := ⟨id_126, fun G g => rfl⟩
theorem ia_127 : Ia (127, 0, 0) 30 := ⟨id_127, fun G g => rfl⟩
theorem ia_128 : Ia (128, 0, 0) 30 := ⟨id_128, fun G g => rfl⟩
theorem ia_129 : Ia (129, 0, 0) 30 := ⟨id_129, fun G g => rfl⟩
theorem ia_130 : Ia (130, 0, 0) 30 := ⟨id_130, fun G g => rfl⟩
theorem ia_131 : Ia (131, 0, 0) 30 := ⟨id_131, fun G g => rfl⟩
theorem ia_132 : Ia (132, 0, 0) 96 := ⟨id_132, fun G g => rfl⟩
theorem ia_141 : Ia (141, 0, 0) 3 := ⟨id_141, fun G g => rfl⟩
theorem ia_142 : Ia (142, 0, 0) 3 := ⟨id_142, fun G g => rfl⟩
theorem ia_143 : Ia (143, 0, 0) 3 := ⟨id_143, fun G g => rfl⟩
theorem ia_147 : Ia (147, 0, 0) 3 := ⟨id_147, fun G g => rfl⟩
theorem ia_148 : Ia (148, 0, 0) 80 := ⟨id_148, fun G g => rfl⟩
theorem ia_149 : Ia (149, 0, 0) 40 := ⟨id_149, fun G g => rfl⟩
theorem ia_150 : Ia (150, 0, 0) 240 := ⟨id_150, fun G g => rfl⟩
theorem ia_155 : Ia (155, 0, 0) 3438 := ⟨id_155, fun G g => rfl⟩
theorem ia_156 : Ia (156, 0, 0) 573 := ⟨id_156, fun G g => rfl⟩
theorem ia_157 : Ia (157, 0, 0) 573 := ⟨id_157, fun G g => rfl⟩
theorem ia_158 : Ia (158, 0, 0) 573 := ⟨id_158, fun G g => rfl⟩
theorem al_hc (hx : p.tables.exec = Jvm.exec) (hb : c.code = cc) (hK : Kt G s) (hW : Wh G x y H) {h : Nat × Nat × Nat} {n : Nat} (hA : Ia h n) (hk : h.1 < 40) {i : Int32} (hin : vp_in i n) (hdg : decode cc pc = .ok (.iaload, 1)) (kk : W p l e R s m args below meth c H locs cells slots Q (F0 m (pc + 1) ls (.int (x h.1 h.2.1 h.2.2 i.toNatClampNeg) :: rest))) : W p l e R s m args below meth c H locs cells slots Q (F0 m pc ls (.int i :: .ref (gA G h.1 h.2.1 h.2.2) :: rest)) := by
  obtain ⟨q0, h0, h2⟩ := wl_get (G := G) (x := x) (y := y) hA.1
  rw [(mm_c hk), hA.2] at h2
  exact va_iald hx hb hK.1 hW.1 q0 0 h2 rfl hin hdg kk
theorem as_hc (hx : p.tables.exec = Jvm.exec) (hb : c.code = cc) (hK : Kt G s) (hW : Wh G x y H) (hS : va_S (gF G) H0 H locs) {h : Nat × Nat × Nat} {n : Nat} (hA : Ia h n) (hk : h.1 < 40) {i v : Int32} (hin : vp_in i n) (hdg : decode cc pc = .ok (.iastore, 1)) (kk : ∀ (H1 : Heap) (locs1 : List Loc), Wh G (up4 x h.1 h.2.1 h.2.2 i.toNatClampNeg v) y H1 → va_S (gF G) H0 H1 locs1 → W p l e R s m args below meth c H1 locs1 cells slots Q (F0 m (pc + 1) ls rest)) : W p l e R s m args below meth c H locs cells slots Q (F0 m pc ls (.int v :: .int i :: .ref (gA G h.1 h.2.1 h.2.2) :: rest)) := by
  obtain ⟨q0, h0, h2⟩ := wl_get (G := G) (x := x) (y := y) hA.1
  rw [(mm_c hk), hA.2] at h2
  have hs := wl_set_c (G := G) (x := x) (y := y) (s := i.toNatClampNeg) (v := v) hk hW.2 h0
  rw [hA.2] at hs
  refine va_iast hx hb hK.1 hW.1 hW.2 hS q0 0 h2 rfl hin hdg (fun H1 locs1 hP hD hS => kk H1 locs1 ⟨?_, ?_⟩ hS)
  · rw [← hs]; exact hP
  · rw [← hs]; exact hD
theorem an_hc (hx : p.tables.exec = Jvm.exec) (hb : c.code = cc) (hK : Kt G s) (hW : Wh G x y H) {h : Nat × Nat × Nat} {n : Nat} (hA : Ia h n) (hdg : decode cc pc = .ok (.arraylength, 1)) (kk : W p l e R s m args below meth c H locs cells slots Q (F0 m (pc + 1) ls (.int (Int32.ofNat n) :: rest))) : W p l e R s m args below meth c H locs cells slots Q (F0 m pc ls (.ref (gA G h.1 h.2.1 h.2.2) :: rest)) := by
  obtain ⟨q0, h0, h2⟩ := wl_get (G := G) (x := x) (y := y) hA.1
  rw [hA.2] at h2
  exact va_alen hx hb hK.1 hW.1 q0 0 h2 rfl rfl hdg kk
theorem al_hr (hx : p.tables.exec = Jvm.exec) (hb : c.code = cc) (hK : Kt G s) (hW : Wh G x y H) {h : Nat × Nat × Nat} {n : Nat} (hA : Ia h n) (hk : ¬ h.1 < 40) {i : Int32} (hin : vp_in i n) (hdg : decode cc pc = .ok (.iaload, 1)) (kk : W p l e R s m args below meth c H locs cells slots Q (F0 m (pc + 1) ls (.int (y h.1 h.2.1 h.2.2 i.toNatClampNeg) :: rest))) : W p l e R s m args below meth c H locs cells slots Q (F0 m pc ls (.int i :: .ref (gA G h.1 h.2.1 h.2.2) :: rest)) := by
  obtain ⟨q0, h0, h2⟩ := wl_get (G := G) (x := x) (y := y) hA.1
  rw [(mm_r hk), hA.2] at h2
  exact va_iald hx hb hK.1 hW.1 q0 0 h2 rfl hin hdg kk
theorem as_hr (hx : p.tables.exec = Jvm.exec) (hb : c.code = cc) (hK : Kt G s) (hW : Wh G x y H) (hS : va_S (gF G) H0 H locs) {h : Nat × Nat × Nat} {n : Nat} (hA : Ia h n) (hk : ¬ h.1 < 40) {i v : Int32} (hin : vp_in i n) (hdg : decode cc pc = .ok (.iastore, 1)) (kk : ∀ (H1 : Heap) (locs1 : List Loc), Wh G x (up4 y h.1 h.2.1 h.2.2 i.toNatClampNeg v) H1 → va_S (gF G) H0 H1 locs1 → W p l e R s m args below meth c H1 locs1 cells slots Q (F0 m (pc + 1) ls rest)) : W p l e R s m args below meth c H locs cells slots Q (F0 m pc ls (.int v :: .int i :: .ref (gA G h.1 h.2.1 h.2.2) :: rest)) := by
  obtain ⟨q0, h0, h2⟩ := wl_get (G := G) (x := x) (y := y) hA.1
  rw [(mm_r hk), hA.2] at h2
  have hs := wl_set_r (G := G) (x := x) (y := y) (s := i.toNatClampNeg) (v := v) hk hW.2 h0
  rw [hA.2] at hs
  refine va_iast hx hb hK.1 hW.1 hW.2 hS q0 0 h2 rfl hin hdg (fun H1 locs1 hP hD hS => kk H1 locs1 ⟨?_, ?_⟩ hS)
  · rw [← hs]; exact hP
  · rw [← hs]; exact hD
theorem an_hr (hx : p.tables.exec = Jvm.exec) (hb : c.code = cc) (hK : Kt G s) (hW : Wh G x y H) {h : Nat × Nat × Nat} {n : Nat} (hA : Ia h n) (hdg : decode cc pc = .ok (.arraylength, 1)) (kk : W p l e R s m args below meth c H locs cells slots Q (F0 m (pc + 1) ls (.int (Int32.ofNat n) :: rest))) : W p l e R s m args below meth c H locs cells slots Q (F0 m pc ls (.ref (gA G h.1 h.2.1 h.2.2) :: rest)) := by
  obtain ⟨q0, h0, h2⟩ := wl_get (G := G) (x := x) (y := y) hA.1
  rw [hA.2] at h2
  exact va_alen hx hb hK.1 hW.1 q0 0 h2 rfl rfl hdg kk
end RT
