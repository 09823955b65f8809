/-! METHOD X11_undo -/
def m_X11_undo (x : Mem) : Option (Nat × Int32 × Mem) :=
  if (x 15 0 0 0) = 0 then (some (3, (0 : Int32), x)) else (bd2_ (m_X4_takeBackInto (0 : Fin 10) x) fun r3 x4 => some (0, r3, x4))
abbrev WS_X11_undo : List Cond := .code yX11_undo cX11_undo 1 (some .int) :: wsG
abbrev RM_X11_undo : Room := { frames := 6, cells := 3, slots := 18, locals := 90 }
set_option maxHeartbeats 4000000 in
set_option maxRecDepth 100000 in
theorem c_X11_undo (l : Launch) (hst : l.stackTraces = false) (G : Geo) (x y : Mem) (r : (Nat × Int32 × Mem)) (h : m_X11_undo x = some r) : vx_Met l yX11_undo WS_X11_undo RM_X11_undo (Px G x y [.ref (gA G 14 0 0)]) (QXi G r y) (XQ G r y) 3 18 (gF G) := by
  refine vx_ofW (cc := cX11_undo) (maxL := 1) (ret := (some .int)) (by decide) rfl ?_
  intro p e s m args below meth c s₁ B hml htab hv
  obtain ⟨rfl, hK, hXt, hZ, hA, hW⟩ := hv
  have hx := B.exec
  have hb := B.bytes
  have hr := B.returns
  have hts := atoms_spec (ws := WS_X11_undo) B.pre
  have htg : ∀ w ∈ wsG, w.before _ s = true := fun w h => hts w (List.mem_cons_of_mem _ h)
  have hown : s.vm.findClass RX11 = some m.cls := findClass_of_methodNamed B.named
  have hlocks := B.notSynchronized
  have hS : va_S (gF G) s.heap s.heap [] := va_S.rf
  have hl := lv_entry ([.ref (gA G 14 0 0)]) (n := 1) (Nat.le_of_ble_eq_true rfl)
  rw [lg_entry_eq]
  generalize (lg_sl ([.ref (gA G 14 0 0)]) ++ List.replicate (1 - (lg_sl ([.ref (gA G 14 0 0)])).length) Slot.unset).toArray = ls at hl ⊢
  have hl : lv_has ls 1 [(0, .ref (gA G 14 0 0))] := hl
  have hX := h
  unfold m_X11_undo at hX
  refine lv_aload_n hx hb dX11_undo_0 rfl (lv_at hl 0 rfl) ?_
  refine gf_14_4 hx hb htg hown hK hW q24 dX11_undo_1 ?_
  refine gf_15_0 hx hb htg hown hK hW q1222 dX11_undo_4 ?_
  refine lv_if_ne (tgt := 21) hx hb dX11_undo_7 (by decide) (fun c1 => ?_) (fun c1 => ?_)
  · have hX := it_f hX c1
    refine lv_aload_n hx hb dX11_undo_21 rfl (lv_at hl 0 rfl) ?_
    refine gf_14_4 hx hb htg hown hK hW q24 dX11_undo_22 ?_
    refine lv_aload_n hx hb dX11_undo_25 rfl (lv_at hl 0 rfl) ?_
    refine gf_14_0 hx hb htg hown hK hW q17 dX11_undo_26 ?_
    obtain ⟨r3, x4, h2, hX⟩ := bd2_go hX
    refine k_X4_takeBackInto hx hb hml hown htg hK hW hS h2 q1223 hl.1 (Nat.le_of_ble_eq_true rfl) (Nat.le_of_ble_eq_true rfl) (Nat.le_of_ble_eq_true rfl) ⟨Nat.le_of_ble_eq_true rfl, Nat.le_of_ble_eq_true rfl⟩ dX11_undo_29 (fun H locs hW hS => ?_)
    have hX := Option.some.inj hX
    subst hX
    exact vx_ret (W.widen (k := 3) (n := 18) (Nat.le_of_ble_eq_true rfl) (Nat.le_of_ble_eq_true rfl) (rtx_i hx hb hr hlocks hW hS dX11_undo_32))
  · have hX := it_t hX c1
    have hX := Option.some.inj hX
    subst hX
    exact thW_3 hx hb hst htg hown hXt hZ hW hS (hl.1.trans hml.symm) (List.mem_of_getElem? (i := 18) rfl) dX11_undo_10 dX11_undo_13 dX11_undo_14 dX11_undo_17 dX11_undo_20 htab (Nat.le_of_ble_eq_true rfl) (Nat.le_of_ble_eq_true rfl) (Nat.le_of_ble_eq_true rfl) (Nat.le_of_ble_eq_true rfl) hlocks (Nat.le_of_ble_eq_true rfl) (Nat.le_of_ble_eq_true rfl)
set_option maxHeartbeats 4000000 in
theorem kx_X11_undo {p : Program} {l : Launch} {e : Env} {R : Room} {s : State} {m : MethodId} {args : Array Value} {below : List Frame} {meth : Method} {c : Code} {H : Heap} {locs : List Loc} {cells slots : Nat} {Q : State → Prop} {cc : ByteArray} {pc nL idx : Nat} {own : String} {ls : Array Slot} {rest : List Value} {G : Geo} {x y : Mem} {cd : Nat} {v : Int32} {z : Mem} (hx : p.tables.exec = Jvm.exec) (hb : c.code = cc) (hml : c.maxLocals = nL) (hown : s.vm.findClass own = some m.cls) (htg : ∀ w ∈ wsG, w.before args s = true) (hst : l.stackTraces = false) (hXt : Xt s) (hZ : Zt G s s.heap) (hA : ∀ q, s.heap.size ≤ q → gF G q) (hK : Kt G s) (hW : Wh G x y H) (hS : va_S (gF G) s.heap H locs) (h : m_X11_undo x = some (cd, v, z)) (hlk : Cond.methodLink own idx yX11_undo ∈ wsG) (hn : ls.size = nL) (hr : (rest.map fun v => v.category).sum ≤ 8) (hR1 : 6 + 1 ≤ R.frames) (hR2 : 8 + (1 + 11) + 90 ≤ R.locals) (hf : cells + 3 ≤ R.cells ∧ slots + 18 ≤ R.slots) (hdg : decode cc pc = .ok (.invokevirtual idx, 3)) (kx : ¬ cd = 0 → ∀ (ce : Cell) (q9 : Addr) (H1 : Heap) (locs1 : List Loc), Wh G z y H1 → va_S (gF G) s.heap H1 locs1 → H1[q9]? = some ce → ce.vm = .none → s.vm.findClass (exN cd) = some ce.cls → vx_W p l e R s m args below meth c H1 locs1 (cells + 3) (slots + 18) Q (F0 m pc ls rest) q9) (kk : cd = 0 → ∀ (H1 : Heap) (locs1 : List Loc), Wh G z y H1 → va_S (gF G) s.heap H1 locs1 → W p l e R s m args below meth c H1 locs1 (cells + 3) (slots + 18) Q (F0 m (pc + 3) ls (.int v :: rest))) : W p l e R s m args below meth c H locs cells slots Q (F0 m pc ls (.ref (gA G 14 0 0) :: rest)) := by
  refine vx_calli (vx_runV (As := []) (rest := rest) ⟨hx, hb, hml, hown, htg⟩ (c_X11_undo l hst G x y (cd, v, z) h) (cwV 0 htg (gd_V hlk q1219 q1220 q2 q1221) rfl rfl rfl (by decide +kernel) ⟨hR1, hR2⟩) ⟨fun a U g mk q => ⟨q.1, q.2.1.calling, q.2.2.1.calling, q.2.2.2.1.calling, q.2.2.2.2.1, q.2.2.2.2.2⟩, rc_14 hK hW, fun U hU hW9 => ⟨rfl, hK.warm hW9, hXt.warm hW9, by rw [hU]; exact (hZ.kept hS).moved hW9.alike, by rw [hU]; exact fun q hq => hA q (Nat.le_trans hS.1 hq), by rw [hU]; exact hW⟩⟩ rfl rfl hn rfl (lv_room hr) hdg hf) hS (fun _ _ h9 => h9) (fun _ h9 => h9) (fun _ _ h9 => h9) ?_ ?_
  · intro E ce q9 u t H1 locs1 ht hvm hp hB hz hk hS1 e1 e2 e3
    obtain ⟨hc, hE, hB⟩ := hB
    replace hB : Wh G z y t.heap := hB
    rw [ht] at hB
    replace hE : E = exN cd := hE
    subst hE
    exact kx hc ce q9 H1 locs1 hB hS1 e1 e2 e3
  · intro r9 u t H1 locs1 ht hvm hw hB hz1 hk1 hS1
    replace hB : Wh G z y t.heap := hB
    rw [ht] at hB
    obtain ⟨hw, hv⟩ := hw
    replace hv : r9 = v := hv
    subst hv
    exact kk hw H1 locs1 hB hS1
/-! METHOD X11_use -/
def m_X11_use (p0 : Int32) (x : Mem) : Option (Nat × UInt32 × Mem) :=
  bxg_ (0 : UInt32) (m_X11_needArm p0 x) fun v4 x3 => if (x3 2 ↑((0 : Fin 10)) 0 0) = 0 then (some (6, (0 : UInt32), x3)) else (bd_ (m_X1_armAt (0 : Fin 10) p0) fun r8 => gq_ (nn32 (FP.fdiv (FP.i2f (x3 0 ↑r8.1 ↑r8.2 11)) (FP.i2f (x3 2 ↑((0 : Fin 10)) 0 0)))) (some (0, (FP.fdiv (FP.i2f (x3 0 ↑r8.1 ↑r8.2 11)) (FP.i2f (x3 2 ↑((0 : Fin 10)) 0 0))), x3)))
abbrev WS_X11_use : List Cond := .code yX11_use cX11_use 2 (some .float) :: wsG
abbrev RM_X11_use : Room := { frames := 7, cells := 3, slots := 18, locals := 110 }
set_option maxHeartbeats 4000000 in
set_option maxRecDepth 100000 in
theorem c_X11_use (l : Launch) (hst : l.stackTraces = false) (G : Geo) (x y : Mem) (p0 : Int32) (r : (Nat × UInt32 × Mem)) (h : m_X11_use p0 x = some r) : vx_Met l yX11_use WS_X11_use RM_X11_use (Px G x y [.ref (gA G 14 0 0), .int p0]) (QXf G r y) (XQg G r y) 3 18 (gF G) := by
  refine vx_ofW (cc := cX11_use) (maxL := 2) (ret := (some .float)) (by decide) rfl ?_
  intro p e s m args below meth c s₁ B hml htab hv
  obtain ⟨rfl, hK, hXt, hZ, hA, hW⟩ := hv
  have hx := B.exec
  have hb := B.bytes
  have hr := B.returns
  have hts := atoms_spec (ws := WS_X11_use) B.pre
  have htg : ∀ w ∈ wsG, w.before _ s = true := fun w h => hts w (List.mem_cons_of_mem _ h)
  have hown : s.vm.findClass RX11 = some m.cls := findClass_of_methodNamed B.named
  have hlocks := B.notSynchronized
  have hS : va_S (gF G) s.heap s.heap [] := va_S.rf
  have hl := lv_entry ([.ref (gA G 14 0 0), .int p0]) (n := 2) (Nat.le_of_ble_eq_true rfl)
  rw [lg_entry_eq]
  generalize (lg_sl ([.ref (gA G 14 0 0), .int p0]) ++ List.replicate (2 - (lg_sl ([.ref (gA G 14 0 0), .int p0])).length) Slot.unset).toArray = ls at hl ⊢
  have hl : lv_has ls 2 [(0, .ref (gA G 14 0 0)), (1, .int p0)] := hl
  have hX := h
  unfold m_X11_use at hX
  refine lv_iload_n hx hb dX11_use_0 rfl (lv_at hl 1 rfl) ?_
  rcases bxg_go hX with ⟨v4, x3, h1, hX⟩ | ⟨c5, v4, x3, c5h, h1, hX⟩
  rotate_left
  · subst hX; exact kx_X11_needArm hx hb hml hown htg hst hXt hZ hA hK hW hS h1 q392 hl.1 (Nat.le_of_ble_eq_true rfl) (Nat.le_of_ble_eq_true rfl) (Nat.le_of_ble_eq_true rfl) ⟨Nat.le_of_ble_eq_true rfl, Nat.le_of_ble_eq_true rfl⟩ dX11_use_1 (fun hc ce q9 H1 locs1 hW hS e1 e2 e3 => x_out c5h htab hlocks e1 e2 e3 hW hS (Nat.le_of_ble_eq_true rfl) (Nat.le_of_ble_eq_true rfl)) (fun h0 => absurd h0 c5h)
  refine kx_X11_needArm hx hb hml hown htg hst hXt hZ hA hK hW hS h1 q392 hl.1 (Nat.le_of_ble_eq_true rfl) (Nat.le_of_ble_eq_true rfl) (Nat.le_of_ble_eq_true rfl) ⟨Nat.le_of_ble_eq_true rfl, Nat.le_of_ble_eq_true rfl⟩ dX11_use_1 (fun hc => absurd rfl hc) (fun _ H locs hW hS => ?_)
  refine lv_aload_n hx hb dX11_use_4 rfl (lv_at hl 0 rfl) ?_
  refine gf_14_0 hx hb htg hown hK hW q17 dX11_use_5 ?_
  refine gf_2_0 hx hb htg hown hK hW (0 : Fin 10) q1047 dX11_use_8 ?_
  refine lv_if_ne (tgt := 25) hx hb dX11_use_11 (by decide) (fun c6 => ?_) (fun c6 => ?_)
  · have hX := it_f hX c6
    refine lv_aload_n hx hb dX11_use_25 rfl (lv_at hl 0 rfl) ?_
    refine gf_14_0 hx hb htg hown hK hW q17 dX11_use_26 ?_
    refine lv_iload_n hx hb dX11_use_29 rfl (lv_at hl 1 rfl) ?_
    obtain ⟨r8, h7, hX⟩ := bd_go hX
    refine k_X1_armAt hx hb hml hown htg hK hW hS h7 q399 hl.1 (Nat.le_of_ble_eq_true rfl) (Nat.le_of_ble_eq_true rfl) (Nat.le_of_ble_eq_true rfl) ⟨Nat.le_of_ble_eq_true rfl, Nat.le_of_ble_eq_true rfl⟩ dX11_use_30 (fun H locs hW hS => ?_)
    refine gf_0_11 hx hb htg hown hK hW r8 q1048 dX11_use_33 ?_
    refine lv_i2f hx hb dX11_use_36 ?_
    refine lv_aload_n hx hb dX11_use_37 rfl (lv_at hl 0 rfl) ?_
    refine gf_14_0 hx hb htg hown hK hW q17 dX11_use_38 ?_
    refine gf_2_0 hx hb htg hown hK hW (0 : Fin 10) q1047 dX11_use_41 ?_
    refine lv_i2f hx hb dX11_use_44 ?_
    obtain ⟨g9, hX⟩ := gq_go hX
    refine lv_fdiv hx hb dX11_use_45 (nn32_ok g9) ?_
    have hX := Option.some.inj hX
    subst hX
    exact vx_ret (W.widen (k := 3) (n := 18) (Nat.le_of_ble_eq_true rfl) (Nat.le_of_ble_eq_true rfl) (rtx_f hx hb hr hlocks hW hS dX11_use_46))
  · have hX := it_t hX c6
    have hX := Option.some.inj hX
    subst hX
    exact thW_6 hx hb hst htg hown hXt hZ hW hS (hl.1.trans hml.symm) (List.mem_of_getElem? (i := 14) rfl) dX11_use_14 dX11_use_17 dX11_use_18 dX11_use_21 dX11_use_24 htab (Nat.le_of_ble_eq_true rfl) (Nat.le_of_ble_eq_true rfl) (Nat.le_of_ble_eq_true rfl) (Nat.le_of_ble_eq_true rfl) hlocks (Nat.le_of_ble_eq_true rfl) (Nat.le_of_ble_eq_true rfl)
set_option maxHeartbeats 4000000 in
theorem kx_X11_use {p : Program} {l : Launch} {e : Env} {R : Room} {s : State} {m : MethodId} {args : Array Value} {below : List Frame} {meth : Method} {c : Code} {H : Heap} {locs : List Loc} {cells slots : Nat} {Q : State → Prop} {cc : ByteArray} {pc nL idx : Nat} {own : String} {ls : Array Slot} {rest : List Value} {G : Geo} {x y : Mem} {p0 : Int32} {cd : Nat} {v : UInt32} {z : Mem} (hx : p.tables.exec = Jvm.exec) (hb : c.code = cc) (hml : c.maxLocals = nL) (hown : s.vm.findClass own = some m.cls) (htg : ∀ w ∈ wsG, w.before args s = true) (hst : l.stackTraces = false) (hXt : Xt s) (hZ : Zt G s s.heap) (hA : ∀ q, s.heap.size ≤ q → gF G q) (hK : Kt G s) (hW : Wh G x y H) (hS : va_S (gF G) s.heap H locs) (h : m_X11_use p0 x = some (cd, v, z)) (hlk : Cond.methodLink own idx yX11_use ∈ wsG) (hn : ls.size = nL) (hr : (rest.map fun v => v.category).sum ≤ 8) (hR1 : 7 + 1 ≤ R.frames) (hR2 : 8 + (2 + 11) + 110 ≤ R.locals) (hf : cells + 3 ≤ R.cells ∧ slots + 18 ≤ R.slots) (hdg : decode cc pc = .ok (.invokevirtual idx, 3)) (kx : ¬ cd = 0 → ∀ (ce : Cell) (q9 : Addr) (H1 : Heap) (locs1 : List Loc), Wh G z y H1 → va_S (gF G) s.heap H1 locs1 → H1[q9]? = some ce → ce.vm = .none → s.vm.findClass (exN cd) = some ce.cls → vx_W p l e R s m args below meth c H1 locs1 (cells + 3) (slots + 18) Q (F0 m pc ls rest) q9) (kk : cd = 0 → ∀ (H1 : Heap) (locs1 : List Loc), Wh G z y H1 → va_S (gF G) s.heap H1 locs1 → W p l e R s m args below meth c H1 locs1 (cells + 3) (slots + 18) Q (F0 m (pc + 3) ls (.float v :: rest))) : W p l e R s m args below meth c H locs cells slots Q (F0 m pc ls (.int p0 :: .ref (gA G 14 0 0) :: rest)) := by
  refine vx_callf (vx_runV (As := [.int p0]) (rest := rest) ⟨hx, hb, hml, hown, htg⟩ (c_X11_use l hst G x y p0 (cd, v, z) h) (cwV 1 htg (gd_V hlk q1042 q1043 q2 q1044) rfl rfl rfl (by decide +kernel) ⟨hR1, hR2⟩) ⟨fun a U g mk q => ⟨q.1, q.2.1.calling, q.2.2.1.calling, q.2.2.2.1.calling, q.2.2.2.2.1, q.2.2.2.2.2⟩, rc_14 hK hW, fun U hU hW9 => ⟨rfl, hK.warm hW9, hXt.warm hW9, by rw [hU]; exact (hZ.kept hS).moved hW9.alike, by rw [hU]; exact fun q hq => hA q (Nat.le_trans hS.1 hq), by rw [hU]; exact hW⟩⟩ rfl rfl hn rfl (lv_room hr) hdg hf) hS (fun _ _ h9 => h9) (fun _ h9 => h9) (fun _ _ h9 => h9) ?_ ?_
  · intro E ce q9 u t H1 locs1 ht hvm hp hB hz hk hS1 e1 e2 e3
    obtain ⟨hc, hE, hB⟩ := hB
    replace hB : Wh G z y t.heap := hB
    rw [ht] at hB
    replace hE : E = exN cd := hE
    subst hE
    exact kx hc ce q9 H1 locs1 hB hS1 e1 e2 e3
  · intro r9 u t H1 locs1 ht hvm hw hB hz1 hk1 hS1
    replace hB : Wh G z y t.heap := hB
    rw [ht] at hB
    obtain ⟨hw, hv⟩ := hw
    replace hv : r9 = v := hv
    subst hv
    exact kk hw H1 locs1 hB hS1
/-! METHOD X11_waiting -/
def m_X11_waiting (p0 : Int32) (p1 : Int32) (x : Mem) : Option (Nat × Int32 × Mem) :=
  bx_ (m_X11_needArm p0 x) fun v4 x3 => bd_ (m_X1_armAt (0 : Fin 10) p0) fun r7 => bd_ (m_X11_isWithin p1 (0 : Int32) ((x3 0 ↑r7.1 ↑r7.2 12) - (1 : Int32))) fun r9 => if r9 = 0 then (some (1, (0 : Int32), x3)) else (bd_ (m_X0_rowAt r7 p1 x3) fun r12 => some (0, r12, x3))
abbrev WS_X11_waiting : List Cond := .code yX11_waiting cX11_waiting 4 (some .int) :: wsG
abbrev RM_X11_waiting : Room := { frames := 7, cells := 3, slots := 18, locals := 110 }
set_option maxHeartbeats 4000000 in
set_option maxRecDepth 100000 in
theorem c_X11_waiting (l : Launch) (hst : l.stackTraces = false) (G : Geo) (x y : Mem) (p0 : Int32) (p1 : Int32) (r : (Nat × Int32 × Mem)) (h : m_X11_waiting p0 p1 x = some r) : vx_Met l yX11_waiting WS_X11_waiting RM_X11_waiting (Px G x y [.ref (gA G 14 0 0), .int p0, .int p1]) (QXi G r y) (XQ G r y) 3 18 (gF G) := by
  refine vx_ofW (cc := cX11_waiting) (maxL := 4) (ret := (some .int)) (by decide) rfl ?_
  intro p e s m args below meth c s₁ B hml htab hv
  obtain ⟨rfl, hK, hXt, hZ, hA, hW⟩ := hv
  have hx := B.exec
  have hb := B.bytes
  have hr := B.returns
  have hts := atoms_spec (ws := WS_X11_waiting) B.pre
  have htg : ∀ w ∈ wsG, w.before _ s = true := fun w h => hts w (List.mem_cons_of_mem _ h)
  have hown : s.vm.findClass RX11 = some m.cls := findClass_of_methodNamed B.named
  have hlocks := B.notSynchronized
  have hS : va_S (gF G) s.heap s.heap [] := va_S.rf
  have hl := lv_entry ([.ref (gA G 14 0 0), .int p0, .int p1]) (n := 4) (Nat.le_of_ble_eq_true rfl)
  rw [lg_entry_eq]
  generalize (lg_sl ([.ref (gA G 14 0 0), .int p0, .int p1]) ++ List.replicate (4 - (lg_sl ([.ref (gA G 14 0 0), .int p0, .int p1])).length) Slot.unset).toArray = ls at hl ⊢
  have hl : lv_has ls 4 [(0, .ref (gA G 14 0 0)), (1, .int p0), (2, .int p1)] := hl
  have hX := h
  unfold m_X11_waiting at hX
  refine lv_iload_n hx hb dX11_waiting_0 rfl (lv_at hl 1 rfl) ?_
  rcases bx_go hX with ⟨v4, x3, h1, hX⟩ | ⟨c5, v4, x3, c5h, h1, hX⟩
  rotate_left
  · subst hX; exact kx_X11_needArm hx hb hml hown htg hst hXt hZ hA hK hW hS h1 q392 hl.1 (Nat.le_of_ble_eq_true rfl) (Nat.le_of_ble_eq_true rfl) (Nat.le_of_ble_eq_true rfl) ⟨Nat.le_of_ble_eq_true rfl, Nat.le_of_ble_eq_true rfl⟩ dX11_waiting_1 (fun hc ce q9 H1 locs1 hW hS e1 e2 e3 => x_out c5h htab hlocks e1 e2 e3 hW hS (Nat.le_of_ble_eq_true rfl) (Nat.le_of_ble_eq_true rfl)) (fun h0 => absurd h0 c5h)
  refine kx_X11_needArm hx hb hml hown htg hst hXt hZ hA hK hW hS h1 q392 hl.1 (Nat.le_of_ble_eq_true rfl) (Nat.le_of_ble_eq_true rfl) (Nat.le_of_ble_eq_true rfl) ⟨Nat.le_of_ble_eq_true rfl, Nat.le_of_ble_eq_true rfl⟩ dX11_waiting_1 (fun hc => absurd rfl hc) (fun _ H locs hW hS => ?_)
  refine lv_aload_n hx hb dX11_waiting_4 rfl (lv_at hl 0 rfl) ?_
  refine gf_14_0 hx hb htg hown hK hW q17 dX11_waiting_5 ?_
  refine lv_iload_n hx hb dX11_waiting_8 rfl (lv_at hl 1 rfl) ?_
  obtain ⟨r7, h6, hX⟩ := bd_go hX
  refine k_X1_armAt hx hb hml hown htg hK hW hS h6 q399 hl.1 (Nat.le_of_ble_eq_true rfl) (Nat.le_of_ble_eq_true rfl) (Nat.le_of_ble_eq_true rfl) ⟨Nat.le_of_ble_eq_true rfl, Nat.le_of_ble_eq_true rfl⟩ dX11_waiting_9 (fun H locs hW hS => ?_)
  refine lv_astore_n (lv' := [(3, .ref (gA G 0 ↑r7.1 ↑r7.2)), (0, .ref (gA G 14 0 0)), (1, .int p0), (2, .int p1)]) hx hb dX11_waiting_12 rfl hl (by decide) rfl (fun ls hl => ?_)
  refine lv_iload_n hx hb dX11_waiting_13 rfl (lv_at hl 3 rfl) ?_
  refine lv_iconst (v := (0 : Int32)) hx hb dX11_waiting_14 (by decide) ?_
  refine lv_aload_n hx hb dX11_waiting_15 rfl (lv_at hl 0 rfl) ?_
  refine gf_0_12 hx hb htg hown hK hW r7 q590 dX11_waiting_16 ?_
  refine lv_iconst (v := (1 : Int32)) hx hb dX11_waiting_19 (by decide) ?_
  refine lv_isub hx hb dX11_waiting_20 ?_
  obtain ⟨r9, h8, hX⟩ := bd_go hX
  refine k_X11_isWithin hx hb hml hown htg hK hW hS h8 q395 hl.1 (Nat.le_of_ble_eq_true rfl) (Nat.le_of_ble_eq_true rfl) (Nat.le_of_ble_eq_true rfl) ⟨Nat.le_of_ble_eq_true rfl, Nat.le_of_ble_eq_true rfl⟩ dX11_waiting_21 (fun H locs hW hS => ?_)
  refine lv_if_ne (tgt := 37) hx hb dX11_waiting_24 (by decide) (fun c10 => ?_) (fun c10 => ?_)
  · have hX := it_f hX c10
    refine lv_aload_n hx hb dX11_waiting_37 rfl (lv_at hl 0 rfl) ?_
    refine lv_iload_n hx hb dX11_waiting_38 rfl (lv_at hl 3 rfl) ?_
    obtain ⟨r12, h11, hX⟩ := bd_go hX
    refine k_X0_rowAt hx hb hml hown htg hK hW hS h11 q666 hl.1 (Nat.le_of_ble_eq_true rfl) (Nat.le_of_ble_eq_true rfl) (Nat.le_of_ble_eq_true rfl) ⟨Nat.le_of_ble_eq_true rfl, Nat.le_of_ble_eq_true rfl⟩ dX11_waiting_39 (fun H locs hW hS => ?_)
    have hX := Option.some.inj hX
    subst hX
    exact vx_ret (W.widen (k := 3) (n := 18) (Nat.le_of_ble_eq_true rfl) (Nat.le_of_ble_eq_true rfl) (rtx_i hx hb hr hlocks hW hS dX11_waiting_42))
  · have hX := it_t hX c10
    have hX := Option.some.inj hX
    subst hX
    exact thS_1 hx hb hst htg hown hXt hZ hW hS (hl.1.trans hml.symm) (List.mem_of_getElem? (i := 6) rfl) dX11_waiting_27 dX11_waiting_30 dX11_waiting_31 dX11_waiting_33 dX11_waiting_36 htab (Nat.le_of_ble_eq_true rfl) (Nat.le_of_ble_eq_true rfl) (Nat.le_of_ble_eq_true rfl) (Nat.le_of_ble_eq_true rfl) hlocks (Nat.le_of_ble_eq_true rfl) (Nat.le_of_ble_eq_true rfl)
set_option maxHeartbeats 4000000 in
theorem kx_X11_waiting {p : Program} {l : Launch} {e : Env} {R : Room} {s : State} {m : MethodId} {args : Array Value} {below : List Frame} {meth : Method} {c : Code} {H : Heap} {locs : List Loc} {cells slots : Nat} {Q : State → Prop} {cc : ByteArray} {pc nL idx : Nat} {own : String} {ls : Array Slot} {rest : List Value} {G : Geo} {x y : Mem} {p0 : Int32} {p1 : Int32} {cd : Nat} {v : Int32} {z : Mem} (hx : p.tables.exec = Jvm.exec) (hb : c.code = cc) (hml : c.maxLocals = nL) (hown : s.vm.findClass own = some m.cls) (htg : ∀ w ∈ wsG, w.before args s = true) (hst : l.stackTraces = false) (hXt : Xt s) (hZ : Zt G s s.heap) (hA : ∀ q, s.heap.size ≤ q → gF G q) (hK : Kt G s) (hW : Wh G x y H) (hS : va_S (gF G) s.heap H locs) (h : m_X11_waiting p0 p1 x = some (cd, v, z)) (hlk : Cond.methodLink own idx yX11_waiting ∈ wsG) (hn : ls.size = nL) (hr : (rest.map fun v => v.category).sum ≤ 8) (hR1 : 7 + 1 ≤ R.frames) (hR2 : 8 + (4 + 11) + 110 ≤ R.locals) (hf : cells + 3 ≤ R.cells ∧ slots + 18 ≤ R.slots) (hdg : decode cc pc = .ok (.invokevirtual idx, 3)) (kx : ¬ cd = 0 → ∀ (ce : Cell) (q9 : Addr) (H1 : Heap) (locs1 : List Loc), Wh G z y H1 → va_S (gF G) s.heap H1 locs1 → H1[q9]? = some ce → ce.vm = .none → s.vm.findClass (exN cd) = some ce.cls → vx_W p l e R s m args below meth c H1 locs1 (cells + 3) (slots + 18) Q (F0 m pc ls rest) q9) (kk : cd = 0 → ∀ (H1 : Heap) (locs1 : List Loc), Wh G z y H1 → va_S (gF G) s.heap H1 locs1 → W p l e R s m args below meth c H1 locs1 (cells + 3) (slots + 18) Q (F0 m (pc + 3) ls (.int v :: rest))) : W p l e R s m args below meth c H locs cells slots Q (F0 m pc ls (.int p1 :: .int p0 :: .ref (gA G 14 0 0) :: rest)) := by
  refine vx_calli (vx_runV (As := [.int p0, .int p1]) (rest := rest) ⟨hx, hb, hml, hown, htg⟩ (c_X11_waiting l hst G x y p0 p1 (cd, v, z) h) (cwV 2 htg (gd_V hlk q663 q664 q2 q665) rfl rfl rfl (by decide +kernel) ⟨hR1, hR2⟩) ⟨fun a U g mk q => ⟨q.1, q.2.1.calling, q.2.2.1.calling, q.2.2.2.1.calling, q.2.2.2.2.1, q.2.2.2.2.2⟩, rc_14 hK hW, fun U hU hW9 => ⟨rfl, hK.warm hW9, hXt.warm hW9, by rw [hU]; exact (hZ.kept hS).moved hW9.alike, by rw [hU]; exact fun q hq => hA q (Nat.le_trans hS.1 hq), by rw [hU]; exact hW⟩⟩ rfl rfl hn rfl (lv_room hr) hdg hf) hS (fun _ _ h9 => h9) (fun _ h9 => h9) (fun _ _ h9 => h9) ?_ ?_
  · intro E ce q9 u t H1 locs1 ht hvm hp hB hz hk hS1 e1 e2 e3
    obtain ⟨hc, hE, hB⟩ := hB
    replace hB : Wh G z y t.heap := hB
    rw [ht] at hB
    replace hE : E = exN cd := hE
    subst hE
    exact kx hc ce q9 H1 locs1 hB hS1 e1 e2 e3
  · intro r9 u t H1 locs1 ht hvm hw hB hz1 hk1 hS1
    replace hB : Wh G z y t.heap := hB
    rw [ht] at hB
    obtain ⟨hw, hv⟩ := hw
    replace hv : r9 = v := hv
    subst hv
    exact kk hw H1 locs1 hB hS1
/-! METHOD X11_withdraw -/
def m_X11_withdraw (p0 : Int32) (x : Mem) : Option (Nat × Int32 × Mem) :=
  bx_ (m_X11_needArm p0 x) fun v4 x3 => bd_ (m_X1_armAt (0 : Fin 10) p0) fun r7 => if (x3 0 ↑r7.1 ↑r7.2 12) = 0 then (some (5, (0 : Int32), x3)) else (bd_ (m_X4_keep (0 : Fin 10) x3) fun x11 => bd2_ (m_X1_takeBackLast (0 : Fin 10) p0 x11) fun r13 x14 => some (0, r13, x14))
abbrev WS_X11_withdraw : List Cond := .code yX11_withdraw cX11_withdraw 2 (some .int) :: wsG
abbrev RM_X11_withdraw : Room := { frames := 7, cells := 3, slots := 18, locals := 110 }
set_option maxHeartbeats 4000000 in
set_option maxRecDepth 100000 in
theorem c_X11_withdraw (l : Launch) (hst : l.stackTraces = false) (G : Geo) (x y : Mem) (p0 : Int32) (r : (Nat × Int32 × Mem)) (h : m_X11_withdraw p0 x = some r) : vx_Met l yX11_withdraw WS_X11_withdraw RM_X11_withdraw (Px G x y [.ref (gA G 14 0 0), .int p0]) (QXi G r y) (XQ G r y) 3 18 (gF G) := by
  refine vx_ofW (cc := cX11_withdraw) (maxL := 2) (ret := (some .int)) (by decide) rfl ?_
  intro p e s m args below meth c s₁ B hml htab hv
  obtain ⟨rfl, hK, hXt, hZ, hA, hW⟩ := hv
  have hx := B.exec
  have hb := B.bytes
  have hr := B.returns
  have hts := atoms_spec (ws := WS_X11_withdraw) B.pre
  have htg : ∀ w ∈ wsG, w.before _ s = true := fun w h => hts w (List.mem_cons_of_mem _ h)
  have hown : s.vm.findClass RX11 = some m.cls := findClass_of_methodNamed B.named
  have hlocks := B.notSynchronized
  have hS : va_S (gF G) s.heap s.heap [] := va_S.rf
  have hl := lv_entry ([.ref (gA G 14 0 0), .int p0]) (n := 2) (Nat.le_of_ble_eq_true rfl)
  rw [lg_entry_eq]
  generalize (lg_sl ([.ref (gA G 14 0 0), .int p0]) ++ List.replicate (2 - (lg_sl ([.ref (gA G 14 0 0), .int p0])).length) Slot.unset).toArray = ls at hl ⊢
  have hl : lv_has ls 2 [(0, .ref (gA G 14 0 0)), (1, .int p0)] := hl
  have hX := h
  unfold m_X11_withdraw at hX
  refine lv_iload_n hx hb dX11_withdraw_0 rfl (lv_at hl 1 rfl) ?_
  rcases bx_go hX with ⟨v4, x3, h1, hX⟩ | ⟨c5, v4, x3, c5h, h1, hX⟩
  rotate_left
  · subst hX; exact kx_X11_needArm hx hb hml hown htg hst hXt hZ hA hK hW hS h1 q392 hl.1 (Nat.le_of_ble_eq_true rfl) (Nat.le_of_ble_eq_true rfl) (Nat.le_of_ble_eq_true rfl) ⟨Nat.le_of_ble_eq_true rfl, Nat.le_of_ble_eq_true rfl⟩ dX11_withdraw_1 (fun hc ce q9 H1 locs1 hW hS e1 e2 e3 => x_out c5h htab hlocks e1 e2 e3 hW hS (Nat.le_of_ble_eq_true rfl) (Nat.le_of_ble_eq_true rfl)) (fun h0 => absurd h0 c5h)
  refine kx_X11_needArm hx hb hml hown htg hst hXt hZ hA hK hW hS h1 q392 hl.1 (Nat.le_of_ble_eq_true rfl) (Nat.le_of_ble_eq_true rfl) (Nat.le_of_ble_eq_true rfl) ⟨Nat.le_of_ble_eq_true rfl, Nat.le_of_ble_eq_true rfl⟩ dX11_withdraw_1 (fun hc => absurd rfl hc) (fun _ H locs hW hS => ?_)
  refine lv_aload_n hx hb dX11_withdraw_4 rfl (lv_at hl 0 rfl) ?_
  refine gf_14_0 hx hb htg hown hK hW q17 dX11_withdraw_5 ?_
  refine lv_iload_n hx hb dX11_withdraw_8 rfl (lv_at hl 1 rfl) ?_
  obtain ⟨r7, h6, hX⟩ := bd_go hX
  refine k_X1_armAt hx hb hml hown htg hK hW hS h6 q399 hl.1 (Nat.le_of_ble_eq_true rfl) (Nat.le_of_ble_eq_true rfl) (Nat.le_of_ble_eq_true rfl) ⟨Nat.le_of_ble_eq_true rfl, Nat.le_of_ble_eq_true rfl⟩ dX11_withdraw_9 (fun H locs hW hS => ?_)
  refine gf_0_12 hx hb htg hown hK hW r7 q590 dX11_withdraw_12 ?_
  refine lv_if_ne (tgt := 28) hx hb dX11_withdraw_15 (by decide) (fun c8 => ?_) (fun c8 => ?_)
  · have hX := it_f hX c8
    refine lv_aload_n hx hb dX11_withdraw_28 rfl (lv_at hl 0 rfl) ?_
    refine gf_14_4 hx hb htg hown hK hW q24 dX11_withdraw_29 ?_
    refine lv_aload_n hx hb dX11_withdraw_32 rfl (lv_at hl 0 rfl) ?_
    refine gf_14_0 hx hb htg hown hK hW q17 dX11_withdraw_33 ?_
    obtain ⟨x11, h9, hX⟩ := bd_go hX
    refine k_X4_keep hx hb hml hown htg hK hW hS h9 q225 hl.1 (Nat.le_of_ble_eq_true rfl) (Nat.le_of_ble_eq_true rfl) (Nat.le_of_ble_eq_true rfl) ⟨Nat.le_of_ble_eq_true rfl, Nat.le_of_ble_eq_true rfl⟩ dX11_withdraw_36 (fun H locs hW hS => ?_)
    refine lv_aload_n hx hb dX11_withdraw_39 rfl (lv_at hl 0 rfl) ?_
    refine gf_14_0 hx hb htg hown hK hW q17 dX11_withdraw_40 ?_
    refine lv_iload_n hx hb dX11_withdraw_43 rfl (lv_at hl 1 rfl) ?_
    obtain ⟨r13, x14, h12, hX⟩ := bd2_go hX
    refine k_X1_takeBackLast hx hb hml hown htg hK hW hS h12 q591 hl.1 (Nat.le_of_ble_eq_true rfl) (Nat.le_of_ble_eq_true rfl) (Nat.le_of_ble_eq_true rfl) ⟨Nat.le_of_ble_eq_true rfl, Nat.le_of_ble_eq_true rfl⟩ dX11_withdraw_44 (fun H locs hW hS => ?_)
    have hX := Option.some.inj hX
    subst hX
    exact vx_ret (W.widen (k := 3) (n := 18) (Nat.le_of_ble_eq_true rfl) (Nat.le_of_ble_eq_true rfl) (rtx_i hx hb hr hlocks hW hS dX11_withdraw_47))
  · have hX := it_t hX c8
    have hX := Option.some.inj hX
    subst hX
    exact thS_5 hx hb hst htg hown hXt hZ hW hS (hl.1.trans hml.symm) (List.mem_of_getElem? (i := 5) rfl) dX11_withdraw_18 dX11_withdraw_21 dX11_withdraw_22 dX11_withdraw_24 dX11_withdraw_27 htab (Nat.le_of_ble_eq_true rfl) (Nat.le_of_ble_eq_true rfl) (Nat.le_of_ble_eq_true rfl) (Nat.le_of_ble_eq_true rfl) hlocks (Nat.le_of_ble_eq_true rfl) (Nat.le_of_ble_eq_true rfl)
set_option maxHeartbeats 4000000 in
theorem kx_X11_withdraw {p : Program} {l : Launch} {e : Env} {R : Room} {s : State} {m : MethodId} {args : Array Value} {below : List Frame} {meth : Method} {c : Code} {H : Heap} {locs : List Loc} {cells slots : Nat} {Q : State → Prop} {cc : ByteArray} {pc nL idx : Nat} {own : String} {ls : Array Slot} {rest : List Value} {G : Geo} {x y : Mem} {p0 : Int32} {cd : Nat} {v : Int32} {z : Mem} (hx : p.tables.exec = Jvm.exec) (hb : c.code = cc) (hml : c.maxLocals = nL) (hown : s.vm.findClass own = some m.cls) (htg : ∀ w ∈ wsG, w.before args s = true) (hst : l.stackTraces = false) (hXt : Xt s) (hZ : Zt G s s.heap) (hA : ∀ q, s.heap.size ≤ q → gF G q) (hK : Kt G s) (hW : Wh G x y H) (hS : va_S (gF G) s.heap H locs) (h : m_X11_withdraw p0 x = some (cd, v, z)) (hlk : Cond.methodLink own idx yX11_withdraw ∈ wsG) (hn : ls.size = nL) (hr : (rest.map fun v => v.category).sum ≤ 8) (hR1 : 7 + 1 ≤ R.frames) (hR2 : 8 + (2 + 11) + 110 ≤ R.locals) (hf : cells + 3 ≤ R.cells ∧ slots + 18 ≤ R.slots) (hdg : decode cc pc = .ok (.invokevirtual idx, 3)) (kx : ¬ cd = 0 → ∀ (ce : Cell) (q9 : Addr) (H1 : Heap) (locs1 : List Loc), Wh G z y H1 → va_S (gF G) s.heap H1 locs1 → H1[q9]? = some ce → ce.vm = .none → s.vm.findClass (exN cd) = some ce.cls → vx_W p l e R s m args below meth c H1 locs1 (cells + 3) (slots + 18) Q (F0 m pc ls rest) q9) (kk : cd = 0 → ∀ (H1 : Heap) (locs1 : List Loc), Wh G z y H1 → va_S (gF G) s.heap H1 locs1 → W p l e R s m args below meth c H1 locs1 (cells + 3) (slots + 18) Q (F0 m (pc + 3) ls (.int v :: rest))) : W p l e R s m args below meth c H locs cells slots Q (F0 m pc ls (.int p0 :: .ref (gA G 14 0 0) :: rest)) := by
  refine vx_calli (vx_runV (As := [.int p0]) (rest := rest) ⟨hx, hb, hml, hown, htg⟩ (c_X11_withdraw l hst G x y p0 (cd, v, z) h) (cwV 1 htg (gd_V hlk q587 q588 q2 q589) rfl rfl rfl (by decide +kernel) ⟨hR1, hR2⟩) ⟨fun a U g mk q => ⟨q.1, q.2.1.calling, q.2.2.1.calling, q.2.2.2.1.calling, q.2.2.2.2.1, q.2.2.2.2.2⟩, rc_14 hK hW, fun U hU hW9 => ⟨rfl, hK.warm hW9, hXt.warm hW9, by rw [hU]; exact (hZ.kept hS).moved hW9.alike, by rw [hU]; exact fun q hq => hA q (Nat.le_trans hS.1 hq), by rw [hU]; exact hW⟩⟩ rfl rfl hn rfl (lv_room hr) hdg hf) hS (fun _ _ h9 => h9) (fun _ h9 => h9) (fun _ _ h9 => h9) ?_ ?_
  · intro E ce q9 u t H1 locs1 ht hvm hp hB hz hk hS1 e1 e2 e3
    obtain ⟨hc, hE, hB⟩ := hB
    replace hB : Wh G z y t.heap := hB
    rw [ht] at hB
    replace hE : E = exN cd := hE
    subst hE
    exact kx hc ce q9 H1 locs1 hB hS1 e1 e2 e3
  · intro r9 u t H1 locs1 ht hvm hw hB hz1 hk1 hS1
    replace hB : Wh G z y t.heap := hB
    rw [ht] at hB
    obtain ⟨hw, hv⟩ := hw
    replace hv : r9 = v := hv
    subst hv
    exact kk hw H1 locs1 hB hS1
/-! METHOD X11_wouldBe -/
def m_X11_wouldBe (p0 : Int32) (x : Mem) : Option (Nat × Int32 × Mem) :=
  bx_ (m_X11_needArm p0 x) fun v4 x3 => bd_ (m_X1_armAt (0 : Fin 10) p0) fun r7 => bd_ (m_X1_hasRequest (0 : Fin 10) r7 x3) fun r9 => if r9 = 0 then (some (5, (0 : Int32), x3)) else (bd2_ (m_X6_findReason (0 : Fin 10) r7 x3) fun r12 x13 => some (0, r12, x13))
abbrev WS_X11_wouldBe : List Cond := .code yX11_wouldBe cX11_wouldBe 3 (some .int) :: wsG
abbrev RM_X11_wouldBe : Room := { frames := 7, cells := 3, slots := 18, locals := 110 }
set_option maxHeartbeats 4000000 in
set_option maxRecDepth 100000 in
theorem c_X11_wouldBe (l : Launch) (hst : l.stackTraces = false) (G : Geo) (x y : Mem) (p0 : Int32) (r : (Nat × Int32 × Mem)) (h : m_X11_wouldBe p0 x = some r) : vx_Met l yX11_wouldBe WS_X11_wouldBe RM_X11_wouldBe (Px G x y [.ref (gA G 14 0 0), .int p0]) (QXi G r y) (XQ G r y) 3 18 (gF G) := by
  refine vx_ofW (cc := cX11_wouldBe) (maxL := 3) (ret := (some .int)) (by decide) rfl ?_
  intro p e s m args below meth c s₁ B hml htab hv
  obtain ⟨rfl, hK, hXt, hZ, hA, hW⟩ := hv
  have hx := B.exec
  have hb := B.bytes
  have hr := B.returns
  have hts := atoms_spec (ws := WS_X11_wouldBe) B.pre
  have htg : ∀ w ∈ wsG, w.before _ s = true := fun w h => hts w (List.mem_cons_of_mem _ h)
  have hown : s.vm.findClass RX11 = some m.cls := findClass_of_methodNamed B.named
  have hlocks := B.notSynchronized
  have hS : va_S (gF G) s.heap s.heap [] := va_S.rf
  have hl := lv_entry ([.ref (gA G 14 0 0), .int p0]) (n := 3) (Nat.le_of_ble_eq_true rfl)
  rw [lg_entry_eq]
  generalize (lg_sl ([.ref (gA G 14 0 0), .int p0]) ++ List.replicate (3 - (lg_sl ([.ref (gA G 14 0 0), .int p0])).length) Slot.unset).toArray = ls at hl ⊢
  have hl : lv_has ls 3 [(0, .ref (gA G 14 0 0)), (1, .int p0)] := hl
  have hX := h
  unfold m_X11_wouldBe at hX
  refine lv_iload_n hx hb dX11_wouldBe_0 rfl (lv_at hl 1 rfl) ?_
  rcases bx_go hX with ⟨v4, x3, h1, hX⟩ | ⟨c5, v4, x3, c5h, h1, hX⟩
  rotate_left
  · subst hX; exact kx_X11_needArm hx hb hml hown htg hst hXt hZ hA hK hW hS h1 q392 hl.1 (Nat.le_of_ble_eq_true rfl) (Nat.le_of_ble_eq_true rfl) (Nat.le_of_ble_eq_true rfl) ⟨Nat.le_of_ble_eq_true rfl, Nat.le_of_ble_eq_true rfl⟩ dX11_wouldBe_1 (fun hc ce q9 H1 locs1 hW hS e1 e2 e3 => x_out c5h htab hlocks e1 e2 e3 hW hS (Nat.le_of_ble_eq_true rfl) (Nat.le_of_ble_eq_true rfl)) (fun h0 => absurd h0 c5h)
  refine kx_X11_needArm hx hb hml hown htg hst hXt hZ hA hK hW hS h1 q392 hl.1 (Nat.le_of_ble_eq_true rfl) (Nat.le_of_ble_eq_true rfl) (Nat.le_of_ble_eq_true rfl) ⟨Nat.le_of_ble_eq_true rfl, Nat.le_of_ble_eq_true rfl⟩ dX11_wouldBe_1 (fun hc => absurd rfl hc) (fun _ H locs hW hS => ?_)
  refine lv_aload_n hx hb dX11_wouldBe_4 rfl (lv_at hl 0 rfl) ?_
  refine gf_14_0 hx hb htg hown hK hW q17 dX11_wouldBe_5 ?_
  refine lv_iload_n hx hb dX11_wouldBe_8 rfl (lv_at hl 1 rfl) ?_
  obtain ⟨r7, h6, hX⟩ := bd_go hX
  refine k_X1_armAt hx hb hml hown htg hK hW hS h6 q399 hl.1 (Nat.le_of_ble_eq_true rfl) (Nat.le_of_ble_eq_true rfl) (Nat.le_of_ble_eq_true rfl) ⟨Nat.le_of_ble_eq_true rfl, Nat.le_of_ble_eq_true rfl⟩ dX11_wouldBe_9 (fun H locs hW hS => ?_)
  refine lv_astore_n (lv' := [(2, .ref (gA G 0 ↑r7.1 ↑r7.2)), (0, .ref (gA G 14 0 0)), (1, .int p0)]) hx hb dX11_wouldBe_12 rfl hl (by decide) rfl (fun ls hl => ?_)
  refine lv_aload_n hx hb dX11_wouldBe_13 rfl (lv_at hl 1 rfl) ?_
  refine gf_14_0 hx hb htg hown hK hW q17 dX11_wouldBe_14 ?_
  refine lv_aload_n hx hb dX11_wouldBe_17 rfl (lv_at hl 0 rfl) ?_
  obtain ⟨r9, h8, hX⟩ := bd_go hX
  refine k_X1_hasRequest hx hb hml hown htg hK hW hS h8 q929 hl.1 (Nat.le_of_ble_eq_true rfl) (Nat.le_of_ble_eq_true rfl) (Nat.le_of_ble_eq_true rfl) ⟨Nat.le_of_ble_eq_true rfl, Nat.le_of_ble_eq_true rfl⟩ dX11_wouldBe_18 (fun H locs hW hS => ?_)
  refine lv_if_ne (tgt := 34) hx hb dX11_wouldBe_21 (by decide) (fun c10 => ?_) (fun c10 => ?_)
  · have hX := it_f hX c10
    refine lv_aload_n hx hb dX11_wouldBe_34 rfl (lv_at hl 1 rfl) ?_
    refine gf_14_5 hx hb htg hown hK hW q28 dX11_wouldBe_35 ?_
    refine gf_17_0 hx hb htg hown hK hW q928 dX11_wouldBe_38 ?_
    refine lv_aload_n hx hb dX11_wouldBe_41 rfl (lv_at hl 1 rfl) ?_
    refine gf_14_0 hx hb htg hown hK hW q17 dX11_wouldBe_42 ?_
    refine lv_aload_n hx hb dX11_wouldBe_45 rfl (lv_at hl 0 rfl) ?_
    obtain ⟨r12, x13, h11, hX⟩ := bd2_go hX
    refine k_X6_findReason hx hb hml hown htg hK hW hS h11 q930 hl.1 (Nat.le_of_ble_eq_true rfl) (Nat.le_of_ble_eq_true rfl) (Nat.le_of_ble_eq_true rfl) ⟨Nat.le_of_ble_eq_true rfl, Nat.le_of_ble_eq_true rfl⟩ dX11_wouldBe_46 (fun H locs hW hS => ?_)
    have hX := Option.some.inj hX
    subst hX
    exact vx_ret (W.widen (k := 3) (n := 18) (Nat.le_of_ble_eq_true rfl) (Nat.le_of_ble_eq_true rfl) (rtx_i hx hb hr hlocks hW hS dX11_wouldBe_49))
  · have hX := it_t hX c10
    have hX := Option.some.inj hX
    subst hX
    exact thS_5 hx hb hst htg hown hXt hZ hW hS (hl.1.trans hml.symm) (List.mem_of_getElem? (i := 9) rfl) dX11_wouldBe_24 dX11_wouldBe_27 dX11_wouldBe_28 dX11_wouldBe_30 dX11_wouldBe_33 htab (Nat.le_of_ble_eq_true rfl) (Nat.le_of_ble_eq_true rfl) (Nat.le_of_ble_eq_true rfl) (Nat.le_of_ble_eq_true rfl) hlocks (Nat.le_of_ble_eq_true rfl) (Nat.le_of_ble_eq_true rfl)
set_option maxHeartbeats 4000000 in
theorem kx_X11_wouldBe {p : Program} {l : Launch} {e : Env} {R : Room} {s : State} {m : MethodId} {args : Array Value} {below : List Frame} {meth : Method} {c : Code} {H : Heap} {locs : List Loc} {cells slots : Nat} {Q : State → Prop} {cc : ByteArray} {pc nL idx : Nat} {own : String} {ls : Array Slot} {rest : List Value} {G : Geo} {x y : Mem} {p0 : Int32} {cd : Nat} {v : Int32} {z : Mem} (hx : p.tables.exec = Jvm.exec) (hb : c.code = cc) (hml : c.maxLocals = nL) (hown : s.vm.findClass own = some m.cls) (htg : ∀ w ∈ wsG, w.before args s = true) (hst : l.stackTraces = false) (hXt : Xt s) (hZ : Zt G s s.heap) (hA : ∀ q, s.heap.size ≤ q → gF G q) (hK : Kt G s) (hW : Wh G x y H) (hS : va_S (gF G) s.heap H locs) (h : m_X11_wouldBe p0 x = some (cd, v, z)) (hlk : Cond.methodLink own idx yX11_wouldBe ∈ wsG) (hn : ls.size = nL) (hr : (rest.map fun v => v.category).sum ≤ 8) (hR1 : 7 + 1 ≤ R.frames) (hR2 : 8 + (3 + 11) + 110 ≤ R.locals) (hf : cells + 3 ≤ R.cells ∧ slots + 18 ≤ R.slots) (hdg : decode cc pc = .ok (.invokevirtual idx, 3)) (kx : ¬ cd = 0 → ∀ (ce : Cell) (q9 : Addr) (H1 : Heap) (locs1 : List Loc), Wh G z y H1 → va_S (gF G) s.heap H1 locs1 → H1[q9]? = some ce → ce.vm = .none → s.vm.findClass (exN cd) = some ce.cls → vx_W p l e R s m args below meth c H1 locs1 (cells + 3) (slots + 18) Q (F0 m pc ls rest) q9) (kk : cd = 0 → ∀ (H1 : Heap) (locs1 : List Loc), Wh G z y H1 → va_S (gF G) s.heap H1 locs1 → W p l e R s m args below meth c H1 locs1 (cells + 3) (slots + 18) Q (F0 m (pc + 3) ls (.int v :: rest))) : W p l e R s m args below meth c H locs cells slots Q (F0 m pc ls (.int p0 :: .ref (gA G 14 0 0) :: rest)) := by
  refine vx_calli (vx_runV (As := [.int p0]) (rest := rest) ⟨hx, hb, hml, hown, htg⟩ (c_X11_wouldBe l hst G x y p0 (cd, v, z) h) (cwV 1 htg (gd_V hlk q925 q926 q2 q927) rfl rfl rfl (by decide +kernel) ⟨hR1, hR2⟩) ⟨fun a U g mk q => ⟨q.1, q.2.1.calling, q.2.2.1.calling, q.2.2.2.1.calling, q.2.2.2.2.1, q.2.2.2.2.2⟩, rc_14 hK hW, fun U hU hW9 => ⟨rfl, hK.warm hW9, hXt.warm hW9, by rw [hU]; exact (hZ.kept hS).moved hW9.alike, by rw [hU]; exact fun q hq => hA q (Nat.le_trans hS.1 hq), by rw [hU]; exact hW⟩⟩ rfl rfl hn rfl (lv_room hr) hdg hf) hS (fun _ _ h9 => h9) (fun _ h9 => h9) (fun _ _ h9 => h9) ?_ ?_
  · intro E ce q9 u t H1 locs1 ht hvm hp hB hz hk hS1 e1 e2 e3
    obtain ⟨hc, hE, hB⟩ := hB
    replace hB : Wh G z y t.heap := hB
    rw [ht] at hB
    replace hE : E = exN cd := hE
    subst hE
    exact kx hc ce q9 H1 locs1 hB hS1 e1 e2 e3
  · intro r9 u t H1 locs1 ht hvm hw hB hz1 hk1 hS1
    replace hB : Wh G z y t.heap := hB
    rw [ht] at hB
    obtain ⟨hw, hv⟩ := hw
    replace hv : r9 = v := hv
    subst hv
    exact kk hw H1 locs1 hB hS1
/-! METHOD X11_zone -/
def m_X11_zone (p0 : Int32) (p1 : Int32) (x : Mem) : Option (Nat × Int32 × Mem) :=
  bd_ (m_X11_isWithin p0 (0 : Int32) (7 : Int32)) fun r2 => if r2 = 0 then (some (1, (0 : Int32), x)) else (bx_ (m_X11_need p1 (4 : Int32) x) fun v7 x6 => bd_ (m_X1_aboutZone (0 : Fin 10) p0 p1 x6) fun r10 => some (0, r10, x6))
abbrev WS_X11_zone : List Cond := .code yX11_zone cX11_zone 3 (some .int) :: wsG
abbrev RM_X11_zone : Room := { frames := 7, cells := 3, slots := 18, locals := 111 }
set_option maxHeartbeats 4000000 in
set_option maxRecDepth 100000 in
theorem c_X11_zone (l : Launch) (hst : l.stackTraces = false) (G : Geo) (x y : Mem) (p0 : Int32) (p1 : Int32) (r : (Nat × Int32 × Mem)) (h : m_X11_zone p0 p1 x = some r) : vx_Met l yX11_zone WS_X11_zone RM_X11_zone (Px G x y [.ref (gA G 14 0 0), .int p0, .int p1]) (QXi G r y) (XQ G r y) 3 18 (gF G) := by
  refine vx_ofW (cc := cX11_zone) (maxL := 3) (ret := (some .int)) (by decide) rfl ?_
  intro p e s m args below meth c s₁ B hml htab hv
  obtain ⟨rfl, hK, hXt, hZ, hA, hW⟩ := hv
  have hx := B.exec
  have hb := B.bytes
  have hr := B.returns
  have hts := atoms_spec (ws := WS_X11_zone) B.pre
  have htg : ∀ w ∈ wsG, w.before _ s = true := fun w h => hts w (List.mem_cons_of_mem _ h)
  have hown : s.vm.findClass RX11 = some m.cls := findClass_of_methodNamed B.named
  have hlocks := B.notSynchronized
  have hS : va_S (gF G) s.heap s.heap [] := va_S.rf
  have hl := lv_entry ([.ref (gA G 14 0 0), .int p0, .int p1]) (n := 3) (Nat.le_of_ble_eq_true rfl)
  rw [lg_entry_eq]
  generalize (lg_sl ([.ref (gA G 14 0 0), .int p0, .int p1]) ++ List.replicate (3 - (lg_sl ([.ref (gA G 14 0 0), .int p0, .int p1])).length) Slot.unset).toArray = ls at hl ⊢
  have hl : lv_has ls 3 [(0, .ref (gA G 14 0 0)), (1, .int p0), (2, .int p1)] := hl
  have hX := h
  unfold m_X11_zone at hX
  refine lv_iload_n hx hb dX11_zone_0 rfl (lv_at hl 1 rfl) ?_
  refine lv_iconst (v := (0 : Int32)) hx hb dX11_zone_1 (by decide) ?_
  refine lv_bipush (v := (7 : Int32)) hx hb dX11_zone_2 (by decide) ?_
  obtain ⟨r2, h1, hX⟩ := bd_go hX
  refine k_X11_isWithin hx hb hml hown htg hK hW hS h1 q395 hl.1 (Nat.le_of_ble_eq_true rfl) (Nat.le_of_ble_eq_true rfl) (Nat.le_of_ble_eq_true rfl) ⟨Nat.le_of_ble_eq_true rfl, Nat.le_of_ble_eq_true rfl⟩ dX11_zone_4 (fun H locs hW hS => ?_)
  refine lv_if_ne (tgt := 20) hx hb dX11_zone_7 (by decide) (fun c3 => ?_) (fun c3 => ?_)
  · have hX := it_f hX c3
    refine lv_iload_n hx hb dX11_zone_20 rfl (lv_at hl 2 rfl) ?_
    refine lv_iconst (v := (4 : Int32)) hx hb dX11_zone_21 (by decide) ?_
    rcases bx_go hX with ⟨v7, x6, h4, hX⟩ | ⟨c8, v7, x6, c8h, h4, hX⟩
    rotate_left
    · subst hX; exact kx_X11_need hx hb hml hown htg hst hXt hZ hA hK hW hS h4 q396 hl.1 (Nat.le_of_ble_eq_true rfl) (Nat.le_of_ble_eq_true rfl) (Nat.le_of_ble_eq_true rfl) ⟨Nat.le_of_ble_eq_true rfl, Nat.le_of_ble_eq_true rfl⟩ dX11_zone_22 (fun hc ce q9 H1 locs1 hW hS e1 e2 e3 => x_out c8h htab hlocks e1 e2 e3 hW hS (Nat.le_of_ble_eq_true rfl) (Nat.le_of_ble_eq_true rfl)) (fun h0 => absurd h0 c8h)
    refine kx_X11_need hx hb hml hown htg hst hXt hZ hA hK hW hS h4 q396 hl.1 (Nat.le_of_ble_eq_true rfl) (Nat.le_of_ble_eq_true rfl) (Nat.le_of_ble_eq_true rfl) ⟨Nat.le_of_ble_eq_true rfl, Nat.le_of_ble_eq_true rfl⟩ dX11_zone_22 (fun hc => absurd rfl hc) (fun _ H locs hW hS => ?_)
    refine lv_aload_n hx hb dX11_zone_25 rfl (lv_at hl 0 rfl) ?_
    refine gf_14_0 hx hb htg hown hK hW q17 dX11_zone_26 ?_
    refine lv_iload_n hx hb dX11_zone_29 rfl (lv_at hl 1 rfl) ?_
    refine lv_iload_n hx hb dX11_zone_30 rfl (lv_at hl 2 rfl) ?_
    obtain ⟨r10, h9, hX⟩ := bd_go hX
    refine k_X1_aboutZone hx hb hml hown htg hK hW hS h9 q468 hl.1 (Nat.le_of_ble_eq_true rfl) (Nat.le_of_ble_eq_true rfl) (Nat.le_of_ble_eq_true rfl) ⟨Nat.le_of_ble_eq_true rfl, Nat.le_of_ble_eq_true rfl⟩ dX11_zone_31 (fun H locs hW hS => ?_)
    have hX := Option.some.inj hX
    subst hX
    exact vx_ret (W.widen (k := 3) (n := 18) (Nat.le_of_ble_eq_true rfl) (Nat.le_of_ble_eq_true rfl) (rtx_i hx hb hr hlocks hW hS dX11_zone_34))
  · have hX := it_t hX c3
    have hX := Option.some.inj hX
    subst hX
    exact thS_1 hx hb hst htg hown hXt hZ hW hS (hl.1.trans hml.symm) (List.mem_of_getElem? (i := 3) rfl) dX11_zone_10 dX11_zone_13 dX11_zone_14 dX11_zone_16 dX11_zone_19 htab (Nat.le_of_ble_eq_true rfl) (Nat.le_of_ble_eq_true rfl) (Nat.le_of_ble_eq_true rfl) (Nat.le_of_ble_eq_true rfl) hlocks (Nat.le_of_ble_eq_true rfl) (Nat.le_of_ble_eq_true rfl)
set_option maxHeartbeats 4000000 in
theorem kx_X11_zone {p : Program} {l : Launch} {e : Env} {R : Room} {s : State} {m : MethodId} {args : Array Value} {below : List Frame} {meth : Method} {c : Code} {H : Heap} {locs : List Loc} {cells slots : Nat} {Q : State → Prop} {cc : ByteArray} {pc nL idx : Nat} {own : String} {ls : Array Slot} {rest : List Value} {G : Geo} {x y : Mem} {p0 : Int32} {p1 : Int32} {cd : Nat} {v : Int32} {z : Mem} (hx : p.tables.exec = Jvm.exec) (hb : c.code = cc) (hml : c.maxLocals = nL) (hown : s.vm.findClass own = some m.cls) (htg : ∀ w ∈ wsG, w.before args s = true) (hst : l.stackTraces = false) (hXt : Xt s) (hZ : Zt G s s.heap) (hA : ∀ q, s.heap.size ≤ q → gF G q) (hK : Kt G s) (hW : Wh G x y H) (hS : va_S (gF G) s.heap H locs) (h : m_X11_zone p0 p1 x = some (cd, v, z)) (hlk : Cond.methodLink own idx yX11_zone ∈ wsG) (hn : ls.size = nL) (hr : (rest.map fun v => v.category).sum ≤ 8) (hR1 : 7 + 1 ≤ R.frames) (hR2 : 8 + (3 + 11) + 111 ≤ R.locals) (hf : cells + 3 ≤ R.cells ∧ slots + 18 ≤ R.slots) (hdg : decode cc pc = .ok (.invokevirtual idx, 3)) (kx : ¬ cd = 0 → ∀ (ce : Cell) (q9 : Addr) (H1 : Heap) (locs1 : List Loc), Wh G z y H1 → va_S (gF G) s.heap H1 locs1 → H1[q9]? = some ce → ce.vm = .none → s.vm.findClass (exN cd) = some ce.cls → vx_W p l e R s m args below meth c H1 locs1 (cells + 3) (slots + 18) Q (F0 m pc ls rest) q9) (kk : cd = 0 → ∀ (H1 : Heap) (locs1 : List Loc), Wh G z y H1 → va_S (gF G) s.heap H1 locs1 → W p l e R s m args below meth c H1 locs1 (cells + 3) (slots + 18) Q (F0 m (pc + 3) ls (.int v :: rest))) : W p l e R s m args below meth c H locs cells slots Q (F0 m pc ls (.int p1 :: .int p0 :: .ref (gA G 14 0 0) :: rest)) := by
  refine vx_calli (vx_runV (As := [.int p0, .int p1]) (rest := rest) ⟨hx, hb, hml, hown, htg⟩ (c_X11_zone l hst G x y p0 p1 (cd, v, z) h) (cwV 2 htg (gd_V hlk q465 q466 q2 q467) rfl rfl rfl (by decide +kernel) ⟨hR1, hR2⟩) ⟨fun a U g mk q => ⟨q.1, q.2.1.calling, q.2.2.1.calling, q.2.2.2.1.calling, q.2.2.2.2.1, q.2.2.2.2.2⟩, rc_14 hK hW, fun U hU hW9 => ⟨rfl, hK.warm hW9, hXt.warm hW9, by rw [hU]; exact (hZ.kept hS).moved hW9.alike, by rw [hU]; exact fun q hq => hA q (Nat.le_trans hS.1 hq), by rw [hU]; exact hW⟩⟩ rfl rfl hn rfl (lv_room hr) hdg hf) hS (fun _ _ h9 => h9) (fun _ h9 => h9) (fun _ _ h9 => h9) ?_ ?_
  · intro E ce q9 u t H1 locs1 ht hvm hp hB hz hk hS1 e1 e2 e3
    obtain ⟨hc, hE, hB⟩ := hB
    replace hB : Wh G z y t.heap := hB
    rw [ht] at hB
    replace hE : E = exN cd := hE
    subst hE
    exact kx hc ce q9 H1 locs1 hB hS1 e1 e2 e3
  · intro r9 u t H1 locs1 ht hvm hw hB hz1 hk1 hS1
    replace hB : Wh G z y t.heap := hB
    rw [ht] at hB
    obtain ⟨hw, hv⟩ := hw
    replace hv : r9 = v := hv
    subst hv
    exact kk hw H1 locs1 hB hS1
