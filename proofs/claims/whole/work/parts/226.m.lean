/-! METHOD X11_feed -/
def m_X11_feed (p0 : Int32) (x : Mem) : Option (Nat × Int32 × Mem) :=
  bd_ (m_X3_isFull x) fun r2 => if r2 = 0 then (bd2_ (m_X3_append p0 x) fun r5 x6 => some (0, r5, x6)) else (some (3, (0 : Int32), x))
abbrev WS_X11_feed : List Cond := .code yX11_feed cX11_feed 2 (some .int) :: wsG
abbrev RM_X11_feed : Room := { frames := 6, cells := 3, slots := 18, locals := 90 }
set_option maxHeartbeats 4000000 in
set_option maxRecDepth 100000 in
theorem c_X11_feed (l : Launch) (hst : l.stackTraces = false) (G : Geo) (x y : Mem) (p0 : Int32) (r : (Nat × Int32 × Mem)) (h : m_X11_feed p0 x = some r) : vx_Met l yX11_feed WS_X11_feed RM_X11_feed (Px G x y [.ref (gA G 14 0 0), .int p0]) (QXi G r y) (XQ G r y) 3 18 (gF G) := by
  refine vx_ofW (cc := cX11_feed) (maxL := 2) (ret := (some .int)) (by decide) rfl ?_
  intro p e s m args below meth c s₁ B hml htab hv
  obtain ⟨rfl, hK, hXt, hZ, hA, hW⟩ := hv
  have hx := B.exec
  have hb := B.bytes
  have hr := B.returns
  have hts := atoms_spec (ws := WS_X11_feed) B.pre
  have htg : ∀ w ∈ wsG, w.before _ s = true := fun w h => hts w (List.mem_cons_of_mem _ h)
  have hown : s.vm.findClass RX11 = some m.cls := findClass_of_methodNamed B.named
  have hlocks := B.notSynchronized
  have hS : va_S (gF G) s.heap s.heap [] := va_S.rf
  have hl := lv_entry ([.ref (gA G 14 0 0), .int p0]) (n := 2) (Nat.le_of_ble_eq_true rfl)
  rw [lg_entry_eq]
  generalize (lg_sl ([.ref (gA G 14 0 0), .int p0]) ++ List.replicate (2 - (lg_sl ([.ref (gA G 14 0 0), .int p0])).length) Slot.unset).toArray = ls at hl ⊢
  have hl : lv_has ls 2 [(0, .ref (gA G 14 0 0)), (1, .int p0)] := hl
  have hX := h
  unfold m_X11_feed at hX
  refine lv_aload_n hx hb dX11_feed_0 rfl (lv_at hl 0 rfl) ?_
  refine gf_14_6 hx hb htg hown hK hW q32 dX11_feed_1 ?_
  obtain ⟨r2, h1, hX⟩ := bd_go hX
  refine k_X3_isFull hx hb hml hown htg hK hW hS h1 q1072 hl.1 (Nat.le_of_ble_eq_true rfl) (Nat.le_of_ble_eq_true rfl) (Nat.le_of_ble_eq_true rfl) ⟨Nat.le_of_ble_eq_true rfl, Nat.le_of_ble_eq_true rfl⟩ dX11_feed_4 (fun H locs hW hS => ?_)
  refine lv_if_eq (tgt := 21) hx hb dX11_feed_7 (by decide) (fun c3 => ?_) (fun c3 => ?_)
  · have hX := it_t hX c3
    refine lv_aload_n hx hb dX11_feed_21 rfl (lv_at hl 0 rfl) ?_
    refine gf_14_6 hx hb htg hown hK hW q32 dX11_feed_22 ?_
    refine lv_iload_n hx hb dX11_feed_25 rfl (lv_at hl 1 rfl) ?_
    obtain ⟨r5, x6, h4, hX⟩ := bd2_go hX
    refine k_X3_append hx hb hml hown htg hK hW hS h4 q1077 hl.1 (Nat.le_of_ble_eq_true rfl) (Nat.le_of_ble_eq_true rfl) (Nat.le_of_ble_eq_true rfl) ⟨Nat.le_of_ble_eq_true rfl, Nat.le_of_ble_eq_true rfl⟩ dX11_feed_26 (fun H locs hW hS => ?_)
    have hX := Option.some.inj hX
    subst hX
    exact vx_ret (W.widen (k := 3) (n := 18) (Nat.le_of_ble_eq_true rfl) (Nat.le_of_ble_eq_true rfl) (rtx_i hx hb hr hlocks hW hS dX11_feed_29))
  · have hX := it_f hX c3
    have hX := Option.some.inj hX
    subst hX
    exact thW_3 hx hb hst htg hown hXt hZ hW hS (hl.1.trans hml.symm) (List.mem_of_getElem? (i := 16) rfl) dX11_feed_10 dX11_feed_13 dX11_feed_14 dX11_feed_17 dX11_feed_20 htab (Nat.le_of_ble_eq_true rfl) (Nat.le_of_ble_eq_true rfl) (Nat.le_of_ble_eq_true rfl) (Nat.le_of_ble_eq_true rfl) hlocks (Nat.le_of_ble_eq_true rfl) (Nat.le_of_ble_eq_true rfl)
set_option maxHeartbeats 4000000 in
theorem kx_X11_feed {p : Program} {l : Launch} {e : Env} {R : Room} {s : State} {m : MethodId} {args : Array Value} {below : List Frame} {meth : Method} {c : Code} {H : Heap} {locs : List Loc} {cells slots : Nat} {Q : State → Prop} {cc : ByteArray} {pc nL idx : Nat} {own : String} {ls : Array Slot} {rest : List Value} {G : Geo} {x y : Mem} {p0 : Int32} {cd : Nat} {v : Int32} {z : Mem} (hx : p.tables.exec = Jvm.exec) (hb : c.code = cc) (hml : c.maxLocals = nL) (hown : s.vm.findClass own = some m.cls) (htg : ∀ w ∈ wsG, w.before args s = true) (hst : l.stackTraces = false) (hXt : Xt s) (hZ : Zt G s s.heap) (hA : ∀ q, s.heap.size ≤ q → gF G q) (hK : Kt G s) (hW : Wh G x y H) (hS : va_S (gF G) s.heap H locs) (h : m_X11_feed p0 x = some (cd, v, z)) (hlk : Cond.methodLink own idx yX11_feed ∈ wsG) (hn : ls.size = nL) (hr : (rest.map fun v => v.category).sum ≤ 8) (hR1 : 6 + 1 ≤ R.frames) (hR2 : 8 + (2 + 11) + 90 ≤ R.locals) (hf : cells + 3 ≤ R.cells ∧ slots + 18 ≤ R.slots) (hdg : decode cc pc = .ok (.invokevirtual idx, 3)) (kx : ¬ cd = 0 → ∀ (ce : Cell) (q9 : Addr) (H1 : Heap) (locs1 : List Loc), Wh G z y H1 → va_S (gF G) s.heap H1 locs1 → H1[q9]? = some ce → ce.vm = .none → s.vm.findClass (exN cd) = some ce.cls → vx_W p l e R s m args below meth c H1 locs1 (cells + 3) (slots + 18) Q (F0 m pc ls rest) q9) (kk : cd = 0 → ∀ (H1 : Heap) (locs1 : List Loc), Wh G z y H1 → va_S (gF G) s.heap H1 locs1 → W p l e R s m args below meth c H1 locs1 (cells + 3) (slots + 18) Q (F0 m (pc + 3) ls (.int v :: rest))) : W p l e R s m args below meth c H locs cells slots Q (F0 m pc ls (.int p0 :: .ref (gA G 14 0 0) :: rest)) := by
  refine vx_calli (vx_runV (As := [.int p0]) (rest := rest) ⟨hx, hb, hml, hown, htg⟩ (c_X11_feed l hst G x y p0 (cd, v, z) h) (cwV 1 htg (gd_V hlk q1069 q1070 q2 q1071) rfl rfl rfl (by decide +kernel) ⟨hR1, hR2⟩) ⟨fun a U g mk q => ⟨q.1, q.2.1.calling, q.2.2.1.calling, q.2.2.2.1.calling, q.2.2.2.2.1, q.2.2.2.2.2⟩, rc_14 hK hW, fun U hU hW9 => ⟨rfl, hK.warm hW9, hXt.warm hW9, by rw [hU]; exact (hZ.kept hS).moved hW9.alike, by rw [hU]; exact fun q hq => hA q (Nat.le_trans hS.1 hq), by rw [hU]; exact hW⟩⟩ rfl rfl hn rfl (lv_room hr) hdg hf) hS (fun _ _ h9 => h9) (fun _ h9 => h9) (fun _ _ h9 => h9) ?_ ?_
  · intro E ce q9 u t H1 locs1 ht hvm hp hB hz hk hS1 e1 e2 e3
    obtain ⟨hc, hE, hB⟩ := hB
    replace hB : Wh G z y t.heap := hB
    rw [ht] at hB
    replace hE : E = exN cd := hE
    subst hE
    exact kx hc ce q9 H1 locs1 hB hS1 e1 e2 e3
  · intro r9 u t H1 locs1 ht hvm hw hB hz1 hk1 hS1
    replace hB : Wh G z y t.heap := hB
    rw [ht] at hB
    obtain ⟨hw, hv⟩ := hw
    replace hv : r9 = v := hv
    subst hv
    exact kk hw H1 locs1 hB hS1
/-! METHOD X11_throwFor -/
def m_X11_throwFor (p0 : Int32) (x : Mem) : Option (Nat × Int32 × Mem) :=
  if p0 = (0 : Int32) then (some (0, (0 : Int32), x)) else if p0 = (1 : Int32) then (some (1, (0 : Int32), x)) else if p0 = (2 : Int32) then (some (2, (0 : Int32), x)) else if p0 = (3 : Int32) then (some (4, (0 : Int32), x)) else (some (3, (0 : Int32), x))
abbrev WS_X11_throwFor : List Cond := .code yX11_throwFor cX11_throwFor 1 none :: wsG
abbrev RM_X11_throwFor : Room := { frames := 6, cells := 1, slots := 6, locals := 90 }
set_option maxHeartbeats 4000000 in
set_option maxRecDepth 100000 in
theorem c_X11_throwFor (l : Launch) (hst : l.stackTraces = false) (G : Geo) (x y : Mem) (p0 : Int32) (r : (Nat × Int32 × Mem)) (h : m_X11_throwFor p0 x = some r) : vx_Met l yX11_throwFor WS_X11_throwFor RM_X11_throwFor (Px G x y [.int p0]) (QXv G r y) (XQ G r y) 1 6 (gF G) := by
  refine vx_ofW (cc := cX11_throwFor) (maxL := 1) (ret := none) (by decide) rfl ?_
  intro p e s m args below meth c s₁ B hml htab hv
  obtain ⟨rfl, hK, hXt, hZ, hA, hW⟩ := hv
  have hx := B.exec
  have hb := B.bytes
  have hr := B.returns
  have hts := atoms_spec (ws := WS_X11_throwFor) B.pre
  have htg : ∀ w ∈ wsG, w.before _ s = true := fun w h => hts w (List.mem_cons_of_mem _ h)
  have hown : s.vm.findClass RX11 = some m.cls := findClass_of_methodNamed B.named
  have hlocks := B.notSynchronized
  have hS : va_S (gF G) s.heap s.heap [] := va_S.rf
  have hl := lv_entry ([.int p0]) (n := 1) (Nat.le_of_ble_eq_true rfl)
  rw [lg_entry_eq]
  generalize (lg_sl ([.int p0]) ++ List.replicate (1 - (lg_sl ([.int p0])).length) Slot.unset).toArray = ls at hl ⊢
  have hl : lv_has ls 1 [(0, .int p0)] := hl
  have hX := h
  unfold m_X11_throwFor at hX
  refine lv_iload_n hx hb dX11_throwFor_0 rfl (lv_at hl 0 rfl) ?_
  by_cases c1 : p0 = (0 : Int32)
  · have hX := it_t hX c1
    refine lv_tsIn (v := (0 : Int32)) (tgt := 32) hx hb dX11_throwFor_1 c1 rfl (by decide) (by decide) rfl (by decide) ?_
    have hX := Option.some.inj hX
    subst hX
    exact vx_ret (W.widen (k := 1) (n := 6) (Nat.le_of_ble_eq_true rfl) (Nat.le_of_ble_eq_true rfl) (rtx_v hx hb hr hlocks hW hS dX11_throwFor_32))
  have hX := it_f hX c1
  by_cases c2 : p0 = (1 : Int32)
  · have hX := it_t hX c2
    refine lv_tsIn (v := (1 : Int32)) (tgt := 33) hx hb dX11_throwFor_1 c2 rfl (by decide) (by decide) rfl (by decide) ?_
    have hX := Option.some.inj hX
    subst hX
    exact thW_1 hx hb hst htg hown hXt hZ hW hS (hl.1.trans hml.symm) (List.mem_of_getElem? (i := 24) rfl) dX11_throwFor_33 dX11_throwFor_36 dX11_throwFor_37 dX11_throwFor_40 dX11_throwFor_43 htab (Nat.le_of_ble_eq_true rfl) (Nat.le_of_ble_eq_true rfl) (Nat.le_of_ble_eq_true rfl) (Nat.le_of_ble_eq_true rfl) hlocks (Nat.le_of_ble_eq_true rfl) (Nat.le_of_ble_eq_true rfl)
  have hX := it_f hX c2
  by_cases c3 : p0 = (2 : Int32)
  · have hX := it_t hX c3
    refine lv_tsIn (v := (2 : Int32)) (tgt := 44) hx hb dX11_throwFor_1 c3 rfl (by decide) (by decide) rfl (by decide) ?_
    have hX := Option.some.inj hX
    subst hX
    exact thW_2 hx hb hst htg hown hXt hZ hW hS (hl.1.trans hml.symm) (List.mem_of_getElem? (i := 23) rfl) dX11_throwFor_44 dX11_throwFor_47 dX11_throwFor_48 dX11_throwFor_51 dX11_throwFor_54 htab (Nat.le_of_ble_eq_true rfl) (Nat.le_of_ble_eq_true rfl) (Nat.le_of_ble_eq_true rfl) (Nat.le_of_ble_eq_true rfl) hlocks (Nat.le_of_ble_eq_true rfl) (Nat.le_of_ble_eq_true rfl)
  have hX := it_f hX c3
  by_cases c4 : p0 = (3 : Int32)
  · have hX := it_t hX c4
    refine lv_tsIn (v := (3 : Int32)) (tgt := 55) hx hb dX11_throwFor_1 c4 rfl (by decide) (by decide) rfl (by decide) ?_
    have hX := Option.some.inj hX
    subst hX
    exact thW_4 hx hb hst htg hown hXt hZ hW hS (hl.1.trans hml.symm) (List.mem_of_getElem? (i := 25) rfl) dX11_throwFor_55 dX11_throwFor_58 dX11_throwFor_59 dX11_throwFor_62 dX11_throwFor_65 htab (Nat.le_of_ble_eq_true rfl) (Nat.le_of_ble_eq_true rfl) (Nat.le_of_ble_eq_true rfl) (Nat.le_of_ble_eq_true rfl) hlocks (Nat.le_of_ble_eq_true rfl) (Nat.le_of_ble_eq_true rfl)
  have hX := it_f hX c4
  refine lv_tsOut (n := 3) (tgt := 66) hx hb dX11_throwFor_1 (by decide) (fun j hj => match j, hj with | 0, _ => c1 | 1, _ => c2 | 2, _ => c3 | 3, _ => c4 | j + 4, hj => absurd hj (by omega)) (by decide) ?_
  have hX := Option.some.inj hX
  subst hX
  exact thW_3 hx hb hst htg hown hXt hZ hW hS (hl.1.trans hml.symm) (List.mem_of_getElem? (i := 26) rfl) dX11_throwFor_66 dX11_throwFor_69 dX11_throwFor_70 dX11_throwFor_73 dX11_throwFor_76 htab (Nat.le_of_ble_eq_true rfl) (Nat.le_of_ble_eq_true rfl) (Nat.le_of_ble_eq_true rfl) (Nat.le_of_ble_eq_true rfl) hlocks (Nat.le_of_ble_eq_true rfl) (Nat.le_of_ble_eq_true rfl)
set_option maxHeartbeats 4000000 in
theorem kx_X11_throwFor {p : Program} {l : Launch} {e : Env} {R : Room} {s : State} {m : MethodId} {args : Array Value} {below : List Frame} {meth : Method} {c : Code} {H : Heap} {locs : List Loc} {cells slots : Nat} {Q : State → Prop} {cc : ByteArray} {pc nL idx : Nat} {own : String} {ls : Array Slot} {rest : List Value} {G : Geo} {x y : Mem} {p0 : Int32} {cd : Nat} {v : Int32} {z : Mem} (hx : p.tables.exec = Jvm.exec) (hb : c.code = cc) (hml : c.maxLocals = nL) (hown : s.vm.findClass own = some m.cls) (htg : ∀ w ∈ wsG, w.before args s = true) (hst : l.stackTraces = false) (hXt : Xt s) (hZ : Zt G s s.heap) (hA : ∀ q, s.heap.size ≤ q → gF G q) (hK : Kt G s) (hW : Wh G x y H) (hS : va_S (gF G) s.heap H locs) (h : m_X11_throwFor p0 x = some (cd, v, z)) (hlk : Cond.methodLink own idx yX11_throwFor ∈ wsG) (hn : ls.size = nL) (hr : (rest.map fun v => v.category).sum ≤ 8) (hR1 : 6 + 1 ≤ R.frames) (hR2 : 8 + (1 + 11) + 90 ≤ R.locals) (hf : cells + 1 ≤ R.cells ∧ slots + 6 ≤ R.slots) (hdg : decode cc pc = .ok (.invokestatic idx, 3)) (kx : ¬ cd = 0 → ∀ (ce : Cell) (q9 : Addr) (H1 : Heap) (locs1 : List Loc), Wh G z y H1 → va_S (gF G) s.heap H1 locs1 → H1[q9]? = some ce → ce.vm = .none → s.vm.findClass (exN cd) = some ce.cls → vx_W p l e R s m args below meth c H1 locs1 (cells + 1) (slots + 6) Q (F0 m pc ls rest) q9) (kk : cd = 0 → ∀ (H1 : Heap) (locs1 : List Loc), Wh G z y H1 → va_S (gF G) s.heap H1 locs1 → W p l e R s m args below meth c H1 locs1 (cells + 1) (slots + 6) Q (F0 m (pc + 3) ls (rest))) : W p l e R s m args below meth c H locs cells slots Q (F0 m pc ls (.int p0 :: rest)) := by
  refine vx_callv (vx_runS (As := [.int p0]) (rest := rest) ⟨hx, hb, hml, hown, htg⟩ (c_X11_throwFor l hst G x y p0 (cd, v, z) h) (va_cwS 1 htg (gd_S hlk q215 q2 q216) rfl rfl rfl (by decide +kernel) ⟨hR1, hR2⟩) ⟨fun a U g mk q => ⟨q.1, q.2.1.calling, q.2.2.1.calling, q.2.2.2.1.calling, q.2.2.2.2.1, q.2.2.2.2.2⟩, fun U hU hW9 => ⟨rfl, hK.warm hW9, hXt.warm hW9, by rw [hU]; exact (hZ.kept hS).moved hW9.alike, by rw [hU]; exact fun q hq => hA q (Nat.le_trans hS.1 hq), by rw [hU]; exact hW⟩⟩ rfl rfl hn rfl (lv_room hr) hdg hf) hS (fun _ _ h9 => h9) (fun _ h9 => h9) (fun _ _ h9 => h9) ?_ ?_
  · intro E ce q9 u t H1 locs1 ht hvm hp hB hz hk hS1 e1 e2 e3
    obtain ⟨hc, hE, hB⟩ := hB
    replace hB : Wh G z y t.heap := hB
    rw [ht] at hB
    replace hE : E = exN cd := hE
    subst hE
    exact kx hc ce q9 H1 locs1 hB hS1 e1 e2 e3
  · intro u t H1 locs1 ht hvm hw hB hz1 hk1 hS1
    replace hB : Wh G z y t.heap := hB
    rw [ht] at hB
    exact kk hw H1 locs1 hB hS1
/-! METHOD X11_give -/
def m_X11_give (p0 : Int32) (p1 : Int32) (p2 : Int32) (p3 : Int32) (p4 : Int32) (p5 : Int32) (x : Mem) : Option (Nat × Int32 × Mem) :=
  bd_ (m_X1_giveFault (0 : Fin 10) p0 p1 p2 p3 p4 p5 x) fun r2 => bx_ (m_X11_throwFor r2 x) fun v6 x5 => bd_ (m_X4_keep (0 : Fin 10) x5) fun x10 => bd2_ (m_X1_addJob (0 : Fin 10) p0 p1 p2 p3 p4 p5 x10) fun r12 x13 => some (0, r12, x13)
abbrev WS_X11_give : List Cond := .code yX11_give cX11_give 7 (some .int) :: wsG
abbrev RM_X11_give : Room := { frames := 7, cells := 3, slots := 18, locals := 110 }
set_option maxHeartbeats 4000000 in
set_option maxRecDepth 100000 in
theorem c_X11_give (l : Launch) (hst : l.stackTraces = false) (G : Geo) (x y : Mem) (p0 : Int32) (p1 : Int32) (p2 : Int32) (p3 : Int32) (p4 : Int32) (p5 : Int32) (r : (Nat × Int32 × Mem)) (h : m_X11_give p0 p1 p2 p3 p4 p5 x = some r) : vx_Met l yX11_give WS_X11_give RM_X11_give (Px G x y [.ref (gA G 14 0 0), .int p0, .int p1, .int p2, .int p3, .int p4, .int p5]) (QXi G r y) (XQ G r y) 3 18 (gF G) := by
  refine vx_ofW (cc := cX11_give) (maxL := 7) (ret := (some .int)) (by decide) rfl ?_
  intro p e s m args below meth c s₁ B hml htab hv
  obtain ⟨rfl, hK, hXt, hZ, hA, hW⟩ := hv
  have hx := B.exec
  have hb := B.bytes
  have hr := B.returns
  have hts := atoms_spec (ws := WS_X11_give) B.pre
  have htg : ∀ w ∈ wsG, w.before _ s = true := fun w h => hts w (List.mem_cons_of_mem _ h)
  have hown : s.vm.findClass RX11 = some m.cls := findClass_of_methodNamed B.named
  have hlocks := B.notSynchronized
  have hS : va_S (gF G) s.heap s.heap [] := va_S.rf
  have hl := lv_entry ([.ref (gA G 14 0 0), .int p0, .int p1, .int p2, .int p3, .int p4, .int p5]) (n := 7) (Nat.le_of_ble_eq_true rfl)
  rw [lg_entry_eq]
  generalize (lg_sl ([.ref (gA G 14 0 0), .int p0, .int p1, .int p2, .int p3, .int p4, .int p5]) ++ List.replicate (7 - (lg_sl ([.ref (gA G 14 0 0), .int p0, .int p1, .int p2, .int p3, .int p4, .int p5])).length) Slot.unset).toArray = ls at hl ⊢
  have hl : lv_has ls 7 [(0, .ref (gA G 14 0 0)), (1, .int p0), (2, .int p1), (3, .int p2), (4, .int p3), (5, .int p4), (6, .int p5)] := hl
  have hX := h
  unfold m_X11_give at hX
  refine lv_aload_n hx hb dX11_give_0 rfl (lv_at hl 0 rfl) ?_
  refine gf_14_0 hx hb htg hown hK hW q17 dX11_give_1 ?_
  refine lv_iload_n hx hb dX11_give_4 rfl (lv_at hl 1 rfl) ?_
  refine lv_iload_n hx hb dX11_give_5 rfl (lv_at hl 2 rfl) ?_
  refine lv_iload_n hx hb dX11_give_6 rfl (lv_at hl 3 rfl) ?_
  refine lv_iload hx hb dX11_give_7 (lv_at hl 4 rfl) ?_
  refine lv_iload hx hb dX11_give_9 (lv_at hl 5 rfl) ?_
  refine lv_iload hx hb dX11_give_11 (lv_at hl 6 rfl) ?_
  obtain ⟨r2, h1, hX⟩ := bd_go hX
  refine k_X1_giveFault hx hb hml hown htg hK hW hS h1 q536 hl.1 (Nat.le_of_ble_eq_true rfl) (Nat.le_of_ble_eq_true rfl) (Nat.le_of_ble_eq_true rfl) ⟨Nat.le_of_ble_eq_true rfl, Nat.le_of_ble_eq_true rfl⟩ dX11_give_13 (fun H locs hW hS => ?_)
  rcases bx_go hX with ⟨v6, x5, h3, hX⟩ | ⟨c7, v6, x5, c7h, h3, hX⟩
  rotate_left
  · subst hX; exact kx_X11_throwFor hx hb hml hown htg hst hXt hZ hA hK hW hS h3 q214 hl.1 (Nat.le_of_ble_eq_true rfl) (Nat.le_of_ble_eq_true rfl) (Nat.le_of_ble_eq_true rfl) ⟨Nat.le_of_ble_eq_true rfl, Nat.le_of_ble_eq_true rfl⟩ dX11_give_16 (fun hc ce q9 H1 locs1 hW hS e1 e2 e3 => x_out c7h htab hlocks e1 e2 e3 hW hS (Nat.le_of_ble_eq_true rfl) (Nat.le_of_ble_eq_true rfl)) (fun h0 => absurd h0 c7h)
  refine kx_X11_throwFor hx hb hml hown htg hst hXt hZ hA hK hW hS h3 q214 hl.1 (Nat.le_of_ble_eq_true rfl) (Nat.le_of_ble_eq_true rfl) (Nat.le_of_ble_eq_true rfl) ⟨Nat.le_of_ble_eq_true rfl, Nat.le_of_ble_eq_true rfl⟩ dX11_give_16 (fun hc => absurd rfl hc) (fun _ H locs hW hS => ?_)
  refine lv_aload_n hx hb dX11_give_19 rfl (lv_at hl 0 rfl) ?_
  refine gf_14_4 hx hb htg hown hK hW q24 dX11_give_20 ?_
  refine lv_aload_n hx hb dX11_give_23 rfl (lv_at hl 0 rfl) ?_
  refine gf_14_0 hx hb htg hown hK hW q17 dX11_give_24 ?_
  obtain ⟨x10, h8, hX⟩ := bd_go hX
  refine k_X4_keep hx hb hml hown htg hK hW hS h8 q225 hl.1 (Nat.le_of_ble_eq_true rfl) (Nat.le_of_ble_eq_true rfl) (Nat.le_of_ble_eq_true rfl) ⟨Nat.le_of_ble_eq_true rfl, Nat.le_of_ble_eq_true rfl⟩ dX11_give_27 (fun H locs hW hS => ?_)
  refine lv_aload_n hx hb dX11_give_30 rfl (lv_at hl 0 rfl) ?_
  refine gf_14_0 hx hb htg hown hK hW q17 dX11_give_31 ?_
  refine lv_iload_n hx hb dX11_give_34 rfl (lv_at hl 1 rfl) ?_
  refine lv_iload_n hx hb dX11_give_35 rfl (lv_at hl 2 rfl) ?_
  refine lv_iload_n hx hb dX11_give_36 rfl (lv_at hl 3 rfl) ?_
  refine lv_iload hx hb dX11_give_37 (lv_at hl 4 rfl) ?_
  refine lv_iload hx hb dX11_give_39 (lv_at hl 5 rfl) ?_
  refine lv_iload hx hb dX11_give_41 (lv_at hl 6 rfl) ?_
  obtain ⟨r12, x13, h11, hX⟩ := bd2_go hX
  refine k_X1_addJob hx hb hml hown htg hK hW hS h11 q544 hl.1 (Nat.le_of_ble_eq_true rfl) (Nat.le_of_ble_eq_true rfl) (Nat.le_of_ble_eq_true rfl) ⟨Nat.le_of_ble_eq_true rfl, Nat.le_of_ble_eq_true rfl⟩ dX11_give_43 (fun H locs hW hS => ?_)
  have hX := Option.some.inj hX
  subst hX
  exact vx_ret (W.widen (k := 3) (n := 18) (Nat.le_of_ble_eq_true rfl) (Nat.le_of_ble_eq_true rfl) (rtx_i hx hb hr hlocks hW hS dX11_give_46))
set_option maxHeartbeats 4000000 in
theorem kx_X11_give {p : Program} {l : Launch} {e : Env} {R : Room} {s : State} {m : MethodId} {args : Array Value} {below : List Frame} {meth : Method} {c : Code} {H : Heap} {locs : List Loc} {cells slots : Nat} {Q : State → Prop} {cc : ByteArray} {pc nL idx : Nat} {own : String} {ls : Array Slot} {rest : List Value} {G : Geo} {x y : Mem} {p0 : Int32} {p1 : Int32} {p2 : Int32} {p3 : Int32} {p4 : Int32} {p5 : Int32} {cd : Nat} {v : Int32} {z : Mem} (hx : p.tables.exec = Jvm.exec) (hb : c.code = cc) (hml : c.maxLocals = nL) (hown : s.vm.findClass own = some m.cls) (htg : ∀ w ∈ wsG, w.before args s = true) (hst : l.stackTraces = false) (hXt : Xt s) (hZ : Zt G s s.heap) (hA : ∀ q, s.heap.size ≤ q → gF G q) (hK : Kt G s) (hW : Wh G x y H) (hS : va_S (gF G) s.heap H locs) (h : m_X11_give p0 p1 p2 p3 p4 p5 x = some (cd, v, z)) (hlk : Cond.methodLink own idx yX11_give ∈ wsG) (hn : ls.size = nL) (hr : (rest.map fun v => v.category).sum ≤ 8) (hR1 : 7 + 1 ≤ R.frames) (hR2 : 8 + (7 + 11) + 110 ≤ R.locals) (hf : cells + 3 ≤ R.cells ∧ slots + 18 ≤ R.slots) (hdg : decode cc pc = .ok (.invokevirtual idx, 3)) (kx : ¬ cd = 0 → ∀ (ce : Cell) (q9 : Addr) (H1 : Heap) (locs1 : List Loc), Wh G z y H1 → va_S (gF G) s.heap H1 locs1 → H1[q9]? = some ce → ce.vm = .none → s.vm.findClass (exN cd) = some ce.cls → vx_W p l e R s m args below meth c H1 locs1 (cells + 3) (slots + 18) Q (F0 m pc ls rest) q9) (kk : cd = 0 → ∀ (H1 : Heap) (locs1 : List Loc), Wh G z y H1 → va_S (gF G) s.heap H1 locs1 → W p l e R s m args below meth c H1 locs1 (cells + 3) (slots + 18) Q (F0 m (pc + 3) ls (.int v :: rest))) : W p l e R s m args below meth c H locs cells slots Q (F0 m pc ls (.int p5 :: .int p4 :: .int p3 :: .int p2 :: .int p1 :: .int p0 :: .ref (gA G 14 0 0) :: rest)) := by
  refine vx_calli (vx_runV (As := [.int p0, .int p1, .int p2, .int p3, .int p4, .int p5]) (rest := rest) ⟨hx, hb, hml, hown, htg⟩ (c_X11_give l hst G x y p0 p1 p2 p3 p4 p5 (cd, v, z) h) (cwV 6 htg (gd_V hlk q533 q534 q2 q535) rfl rfl rfl (by decide +kernel) ⟨hR1, hR2⟩) ⟨fun a U g mk q => ⟨q.1, q.2.1.calling, q.2.2.1.calling, q.2.2.2.1.calling, q.2.2.2.2.1, q.2.2.2.2.2⟩, rc_14 hK hW, fun U hU hW9 => ⟨rfl, hK.warm hW9, hXt.warm hW9, by rw [hU]; exact (hZ.kept hS).moved hW9.alike, by rw [hU]; exact fun q hq => hA q (Nat.le_trans hS.1 hq), by rw [hU]; exact hW⟩⟩ rfl rfl hn rfl (lv_room hr) hdg hf) hS (fun _ _ h9 => h9) (fun _ h9 => h9) (fun _ _ h9 => h9) ?_ ?_
  · intro E ce q9 u t H1 locs1 ht hvm hp hB hz hk hS1 e1 e2 e3
    obtain ⟨hc, hE, hB⟩ := hB
    replace hB : Wh G z y t.heap := hB
    rw [ht] at hB
    replace hE : E = exN cd := hE
    subst hE
    exact kx hc ce q9 H1 locs1 hB hS1 e1 e2 e3
  · intro r9 u t H1 locs1 ht hvm hw hB hz1 hk1 hS1
    replace hB : Wh G z y t.heap := hB
    rw [ht] at hB
    obtain ⟨hw, hv⟩ := hw
    replace hv : r9 = v := hv
    subst hv
    exact kk hw H1 locs1 hB hS1
/-! METHOD X11_idleAfter -/
def m_X11_idleAfter_b13 (k13 : Int32 → Mem → Option (Nat × Int32 × Mem)) (x1 : Int32) (x : Mem) : Option (Nat × Int32 × Mem) :=
  if (200 : Int32) < x1 then (some (5, (0 : Int32), x)) else (bd_ (m_X1_isAllIdle (1 : Fin 10) x) fun r7 => if r7 = 0 then (bd_ (m_X8_makeTick (1 : Fin 10) x) fun x11 => lt_ (x1 + (1 : Int32)) fun x1_12 => k13 x1_12 x11) else (some (0, x1, x)))
def m_X11_idleAfter_l13 : Nat → Int32 → Mem → Option (Nat × Int32 × Mem)
  | 0, _, _ => none
  | n + 1, x1, x => m_X11_idleAfter_b13 (m_X11_idleAfter_l13 n) x1 x
def m_X11_idleAfter (x : Mem) : Option (Nat × Int32 × Mem) :=
  bd_ (m_X1_copyFrom (1 : Fin 10) (0 : Fin 10) x) fun x3 => lt_ (0 : Int32) fun x1_4 => m_X11_idleAfter_l13 FU x1_4 x3
abbrev WS_X11_idleAfter : List Cond := .code yX11_idleAfter cX11_idleAfter 2 (some .int) :: wsG
abbrev RM_X11_idleAfter : Room := { frames := 6, cells := 3, slots := 18, locals := 121 }
set_option maxHeartbeats 4000000 in
set_option maxRecDepth 100000 in
theorem c_X11_idleAfter (l : Launch) (hst : l.stackTraces = false) (G : Geo) (x y : Mem) (r : (Nat × Int32 × Mem)) (h : m_X11_idleAfter x = some r) : vx_Met l yX11_idleAfter WS_X11_idleAfter RM_X11_idleAfter (Px G x y [.ref (gA G 14 0 0)]) (QXi G r y) (XQ G r y) 3 18 (gF G) := by
  refine vx_ofW (cc := cX11_idleAfter) (maxL := 2) (ret := (some .int)) (by decide) rfl ?_
  intro p e s m args below meth c s₁ B hml htab hv
  obtain ⟨rfl, hK, hXt, hZ, hA, hW⟩ := hv
  have hx := B.exec
  have hb := B.bytes
  have hr := B.returns
  have hts := atoms_spec (ws := WS_X11_idleAfter) B.pre
  have htg : ∀ w ∈ wsG, w.before _ s = true := fun w h => hts w (List.mem_cons_of_mem _ h)
  have hown : s.vm.findClass RX11 = some m.cls := findClass_of_methodNamed B.named
  have hlocks := B.notSynchronized
  have hS : va_S (gF G) s.heap s.heap [] := va_S.rf
  have hl := lv_entry ([.ref (gA G 14 0 0)]) (n := 2) (Nat.le_of_ble_eq_true rfl)
  rw [lg_entry_eq]
  generalize (lg_sl ([.ref (gA G 14 0 0)]) ++ List.replicate (2 - (lg_sl ([.ref (gA G 14 0 0)])).length) Slot.unset).toArray = ls at hl ⊢
  have hl : lv_has ls 2 [(0, .ref (gA G 14 0 0))] := hl
  have hX := h
  unfold m_X11_idleAfter at hX
  have B_13 : ∀ (k13 : Int32 → Mem → Option (Nat × Int32 × Mem)) (hk13 : ∀ (x1 : Int32) (x : Mem) (H : Heap) (locs : List Loc) (ls : Array Slot), Wh G x y H → va_S (gF G) s.heap H locs → lv_has ls 2 [(0, .ref (gA G 14 0 0)), (1, .int x1)] → k13 x1 x = some r → W p l e (headSpec WS_X11_idleAfter RM_X11_idleAfter).room s m ([.ref (gA G 14 0 0)] : List Value).toArray below meth c H locs 0 0 (vx_MQ below (QXi G r y) (XQ G r y) ([.ref (gA G 14 0 0)] : List Value).toArray s 3 18 (gF G)) (F0 m 13 ls [])), ∀ (x1 : Int32) (x : Mem) (H : Heap) (locs : List Loc) (ls : Array Slot), Wh G x y H → va_S (gF G) s.heap H locs → lv_has ls 2 [(0, .ref (gA G 14 0 0)), (1, .int x1)] → m_X11_idleAfter_b13 k13 x1 x = some r → W p l e (headSpec WS_X11_idleAfter RM_X11_idleAfter).room s m ([.ref (gA G 14 0 0)] : List Value).toArray below meth c H locs 0 0 (vx_MQ below (QXi G r y) (XQ G r y) ([.ref (gA G 14 0 0)] : List Value).toArray s 3 18 (gF G)) (F0 m 13 ls []) := by
    intro k13 hk13 x1 x H locs ls hW hS hl hX
    unfold m_X11_idleAfter_b13 at hX
    refine lv_iload_n hx hb dX11_idleAfter_13 rfl (lv_at hl 1 rfl) ?_
    refine lv_sipush (v := (200 : Int32)) hx hb dX11_idleAfter_14 (by decide) ?_
    refine lv_icmp_gt (tgt := 49) hx hb dX11_idleAfter_17 (by decide) (fun c5 => ?_) (fun c5 => ?_)
    · have hX := it_t hX c5
      have hX := Option.some.inj hX
      subst hX
      exact thS_5 hx hb hst htg hown hXt hZ hW hS (hl.1.trans hml.symm) (List.mem_of_getElem? (i := 12) rfl) dX11_idleAfter_49 dX11_idleAfter_52 dX11_idleAfter_53 dX11_idleAfter_55 dX11_idleAfter_58 htab (Nat.le_of_ble_eq_true rfl) (Nat.le_of_ble_eq_true rfl) (Nat.le_of_ble_eq_true rfl) (Nat.le_of_ble_eq_true rfl) hlocks (Nat.le_of_ble_eq_true rfl) (Nat.le_of_ble_eq_true rfl)
    · have hX := it_f hX c5
      refine lv_aload_n hx hb dX11_idleAfter_20 rfl (lv_at hl 0 rfl) ?_
      refine gf_14_1 hx hb htg hown hK hW q18 dX11_idleAfter_21 ?_
      obtain ⟨r7, h6, hX⟩ := bd_go hX
      refine k_X1_isAllIdle hx hb hml hown htg hK hW hS h6 q963 hl.1 (Nat.le_of_ble_eq_true rfl) (Nat.le_of_ble_eq_true rfl) (Nat.le_of_ble_eq_true rfl) ⟨Nat.le_of_ble_eq_true rfl, Nat.le_of_ble_eq_true rfl⟩ dX11_idleAfter_24 (fun H locs hW hS => ?_)
      refine lv_if_eq (tgt := 32) hx hb dX11_idleAfter_27 (by decide) (fun c8 => ?_) (fun c8 => ?_)
      · have hX := it_t hX c8
        refine lv_aload_n hx hb dX11_idleAfter_32 rfl (lv_at hl 0 rfl) ?_
        refine gf_14_5 hx hb htg hown hK hW q28 dX11_idleAfter_33 ?_
        refine lv_aload_n hx hb dX11_idleAfter_36 rfl (lv_at hl 0 rfl) ?_
        refine gf_14_1 hx hb htg hown hK hW q18 dX11_idleAfter_37 ?_
        obtain ⟨x11, h9, hX⟩ := bd_go hX
        refine k_X8_makeTick hx hb hml hown htg hK hW hS h9 q679 hl.1 (Nat.le_of_ble_eq_true rfl) (Nat.le_of_ble_eq_true rfl) (Nat.le_of_ble_eq_true rfl) ⟨Nat.le_of_ble_eq_true rfl, Nat.le_of_ble_eq_true rfl⟩ dX11_idleAfter_40 (fun H locs hW hS => ?_)
        obtain ⟨x1_12, e9⟩ : ∃ w : Int32, w = (x1 + (1 : Int32)) := ⟨_, rfl⟩
        have hX := lt_go hX e9
        refine lv_iinc (v := x1_12) (lv' := [(1, .int x1_12), (0, .ref (gA G 14 0 0))]) hx hb dX11_idleAfter_43 hl (k := 1) rfl (by rw [e9]; rfl) (by decide) rfl (fun ls hl => ?_)
        refine lv_goto (tgt := 13) hx hb dX11_idleAfter_46 (by decide) ?_
        exact hk13 _ _ _ _ _ hW hS (lv_sub hl [1, 0] rfl) hX
      · have hX := it_f hX c8
        refine lv_iload_n hx hb dX11_idleAfter_30 rfl (lv_at hl 1 rfl) ?_
        have hX := Option.some.inj hX
        subst hX
        exact vx_ret (W.widen (k := 3) (n := 18) (Nat.le_of_ble_eq_true rfl) (Nat.le_of_ble_eq_true rfl) (rtx_i hx hb hr hlocks hW hS dX11_idleAfter_31))
  have L_13 : ∀ (n : Nat), ∀ (x1 : Int32) (x : Mem) (H : Heap) (locs : List Loc) (ls : Array Slot), Wh G x y H → va_S (gF G) s.heap H locs → lv_has ls 2 [(0, .ref (gA G 14 0 0)), (1, .int x1)] → m_X11_idleAfter_l13 n x1 x = some r → W p l e (headSpec WS_X11_idleAfter RM_X11_idleAfter).room s m ([.ref (gA G 14 0 0)] : List Value).toArray below meth c H locs 0 0 (vx_MQ below (QXi G r y) (XQ G r y) ([.ref (gA G 14 0 0)] : List Value).toArray s 3 18 (gF G)) (F0 m 13 ls []) := by
    intro n
    induction n with
    | zero => intro x1 x H locs ls hW hS hl hX; exact no_go hX
    | succ n ih => intro x1 x H locs ls hW hS hl hX; exact B_13 _ ih _ _ _ _ _ hW hS hl hX
  refine lv_aload_n hx hb dX11_idleAfter_0 rfl (lv_at hl 0 rfl) ?_
  refine gf_14_1 hx hb htg hown hK hW q18 dX11_idleAfter_1 ?_
  refine lv_aload_n hx hb dX11_idleAfter_4 rfl (lv_at hl 0 rfl) ?_
  refine gf_14_0 hx hb htg hown hK hW q17 dX11_idleAfter_5 ?_
  obtain ⟨x3, h1, hX⟩ := bd_go hX
  refine k_X1_copyFrom hx hb hml hown htg hK hW hS h1 q943 hl.1 (Nat.le_of_ble_eq_true rfl) (Nat.le_of_ble_eq_true rfl) (Nat.le_of_ble_eq_true rfl) ⟨Nat.le_of_ble_eq_true rfl, Nat.le_of_ble_eq_true rfl⟩ dX11_idleAfter_8 (fun H locs hW hS => ?_)
  refine lv_iconst (v := (0 : Int32)) hx hb dX11_idleAfter_11 (by decide) ?_
  refine lv_topi (fun x1_4 e9 => ?_)
  have hX := lt_go hX e9
  refine lv_istore_n (lv' := [(1, .int x1_4), (0, .ref (gA G 14 0 0))]) hx hb dX11_idleAfter_12 rfl hl (by decide) rfl (fun ls hl => ?_)
  exact L_13 FU _ _ _ _ _ hW hS (lv_sub hl [1, 0] rfl) hX
set_option maxHeartbeats 4000000 in
theorem kx_X11_idleAfter {p : Program} {l : Launch} {e : Env} {R : Room} {s : State} {m : MethodId} {args : Array Value} {below : List Frame} {meth : Method} {c : Code} {H : Heap} {locs : List Loc} {cells slots : Nat} {Q : State → Prop} {cc : ByteArray} {pc nL idx : Nat} {own : String} {ls : Array Slot} {rest : List Value} {G : Geo} {x y : Mem} {cd : Nat} {v : Int32} {z : Mem} (hx : p.tables.exec = Jvm.exec) (hb : c.code = cc) (hml : c.maxLocals = nL) (hown : s.vm.findClass own = some m.cls) (htg : ∀ w ∈ wsG, w.before args s = true) (hst : l.stackTraces = false) (hXt : Xt s) (hZ : Zt G s s.heap) (hA : ∀ q, s.heap.size ≤ q → gF G q) (hK : Kt G s) (hW : Wh G x y H) (hS : va_S (gF G) s.heap H locs) (h : m_X11_idleAfter x = some (cd, v, z)) (hlk : Cond.methodLink own idx yX11_idleAfter ∈ wsG) (hn : ls.size = nL) (hr : (rest.map fun v => v.category).sum ≤ 8) (hR1 : 6 + 1 ≤ R.frames) (hR2 : 8 + (2 + 11) + 121 ≤ R.locals) (hf : cells + 3 ≤ R.cells ∧ slots + 18 ≤ R.slots) (hdg : decode cc pc = .ok (.invokevirtual idx, 3)) (kx : ¬ cd = 0 → ∀ (ce : Cell) (q9 : Addr) (H1 : Heap) (locs1 : List Loc), Wh G z y H1 → va_S (gF G) s.heap H1 locs1 → H1[q9]? = some ce → ce.vm = .none → s.vm.findClass (exN cd) = some ce.cls → vx_W p l e R s m args below meth c H1 locs1 (cells + 3) (slots + 18) Q (F0 m pc ls rest) q9) (kk : cd = 0 → ∀ (H1 : Heap) (locs1 : List Loc), Wh G z y H1 → va_S (gF G) s.heap H1 locs1 → W p l e R s m args below meth c H1 locs1 (cells + 3) (slots + 18) Q (F0 m (pc + 3) ls (.int v :: rest))) : W p l e R s m args below meth c H locs cells slots Q (F0 m pc ls (.ref (gA G 14 0 0) :: rest)) := by
  refine vx_calli (vx_runV (As := []) (rest := rest) ⟨hx, hb, hml, hown, htg⟩ (c_X11_idleAfter l hst G x y (cd, v, z) h) (cwV 0 htg (gd_V hlk q960 q961 q2 q962) rfl rfl rfl (by decide +kernel) ⟨hR1, hR2⟩) ⟨fun a U g mk q => ⟨q.1, q.2.1.calling, q.2.2.1.calling, q.2.2.2.1.calling, q.2.2.2.2.1, q.2.2.2.2.2⟩, rc_14 hK hW, fun U hU hW9 => ⟨rfl, hK.warm hW9, hXt.warm hW9, by rw [hU]; exact (hZ.kept hS).moved hW9.alike, by rw [hU]; exact fun q hq => hA q (Nat.le_trans hS.1 hq), by rw [hU]; exact hW⟩⟩ rfl rfl hn rfl (lv_room hr) hdg hf) hS (fun _ _ h9 => h9) (fun _ h9 => h9) (fun _ _ h9 => h9) ?_ ?_
  · intro E ce q9 u t H1 locs1 ht hvm hp hB hz hk hS1 e1 e2 e3
    obtain ⟨hc, hE, hB⟩ := hB
    replace hB : Wh G z y t.heap := hB
    rw [ht] at hB
    replace hE : E = exN cd := hE
    subst hE
    exact kx hc ce q9 H1 locs1 hB hS1 e1 e2 e3
  · intro r9 u t H1 locs1 ht hvm hw hB hz1 hk1 hS1
    replace hB : Wh G z y t.heap := hB
    rw [ht] at hB
    obtain ⟨hw, hv⟩ := hw
    replace hv : r9 = v := hv
    subst hv
    exact kk hw H1 locs1 hB hS1
/-! METHOD X11_job -/
def m_X11_job (p0 : Int32) (p1 : Int32) (x : Mem) : Option (Nat × Int32 × Mem) :=
  bx_ (m_X11_needJob p0 x) fun v4 x3 => bx_ (m_X11_need p1 (8 : Int32) x3) fun v9 x8 => bd_ (m_X1_jobAt (0 : Fin 10) p0) fun r12 => bd_ (m_X5_about r12 p1 x8) fun r14 => some (0, r14, x8)
abbrev WS_X11_job : List Cond := .code yX11_job cX11_job 3 (some .int) :: wsG
abbrev RM_X11_job : Room := { frames := 7, cells := 3, slots := 18, locals := 111 }
set_option maxHeartbeats 4000000 in
set_option maxRecDepth 100000 in
theorem c_X11_job (l : Launch) (hst : l.stackTraces = false) (G : Geo) (x y : Mem) (p0 : Int32) (p1 : Int32) (r : (Nat × Int32 × Mem)) (h : m_X11_job p0 p1 x = some r) : vx_Met l yX11_job WS_X11_job RM_X11_job (Px G x y [.ref (gA G 14 0 0), .int p0, .int p1]) (QXi G r y) (XQ G r y) 3 18 (gF G) := by
  refine vx_ofW (cc := cX11_job) (maxL := 3) (ret := (some .int)) (by decide) rfl ?_
  intro p e s m args below meth c s₁ B hml htab hv
  obtain ⟨rfl, hK, hXt, hZ, hA, hW⟩ := hv
  have hx := B.exec
  have hb := B.bytes
  have hr := B.returns
  have hts := atoms_spec (ws := WS_X11_job) B.pre
  have htg : ∀ w ∈ wsG, w.before _ s = true := fun w h => hts w (List.mem_cons_of_mem _ h)
  have hown : s.vm.findClass RX11 = some m.cls := findClass_of_methodNamed B.named
  have hlocks := B.notSynchronized
  have hS : va_S (gF G) s.heap s.heap [] := va_S.rf
  have hl := lv_entry ([.ref (gA G 14 0 0), .int p0, .int p1]) (n := 3) (Nat.le_of_ble_eq_true rfl)
  rw [lg_entry_eq]
  generalize (lg_sl ([.ref (gA G 14 0 0), .int p0, .int p1]) ++ List.replicate (3 - (lg_sl ([.ref (gA G 14 0 0), .int p0, .int p1])).length) Slot.unset).toArray = ls at hl ⊢
  have hl : lv_has ls 3 [(0, .ref (gA G 14 0 0)), (1, .int p0), (2, .int p1)] := hl
  have hX := h
  unfold m_X11_job at hX
  refine lv_aload_n hx hb dX11_job_0 rfl (lv_at hl 0 rfl) ?_
  refine lv_iload_n hx hb dX11_job_1 rfl (lv_at hl 1 rfl) ?_
  rcases bx_go hX with ⟨v4, x3, h1, hX⟩ | ⟨c5, v4, x3, c5h, h1, hX⟩
  rotate_left
  · subst hX; exact kx_X11_needJob hx hb hml hown htg hst hXt hZ hA hK hW hS h1 q614 hl.1 (Nat.le_of_ble_eq_true rfl) (Nat.le_of_ble_eq_true rfl) (Nat.le_of_ble_eq_true rfl) ⟨Nat.le_of_ble_eq_true rfl, Nat.le_of_ble_eq_true rfl⟩ dX11_job_2 (fun hc ce q9 H1 locs1 hW hS e1 e2 e3 => x_out c5h htab hlocks e1 e2 e3 hW hS (Nat.le_of_ble_eq_true rfl) (Nat.le_of_ble_eq_true rfl)) (fun h0 => absurd h0 c5h)
  refine kx_X11_needJob hx hb hml hown htg hst hXt hZ hA hK hW hS h1 q614 hl.1 (Nat.le_of_ble_eq_true rfl) (Nat.le_of_ble_eq_true rfl) (Nat.le_of_ble_eq_true rfl) ⟨Nat.le_of_ble_eq_true rfl, Nat.le_of_ble_eq_true rfl⟩ dX11_job_2 (fun hc => absurd rfl hc) (fun _ H locs hW hS => ?_)
  refine lv_iload_n hx hb dX11_job_5 rfl (lv_at hl 2 rfl) ?_
  refine lv_bipush (v := (8 : Int32)) hx hb dX11_job_6 (by decide) ?_
  rcases bx_go hX with ⟨v9, x8, h6, hX⟩ | ⟨c10, v9, x8, c10h, h6, hX⟩
  rotate_left
  · subst hX; exact kx_X11_need hx hb hml hown htg hst hXt hZ hA hK hW hS h6 q396 hl.1 (Nat.le_of_ble_eq_true rfl) (Nat.le_of_ble_eq_true rfl) (Nat.le_of_ble_eq_true rfl) ⟨Nat.le_of_ble_eq_true rfl, Nat.le_of_ble_eq_true rfl⟩ dX11_job_8 (fun hc ce q9 H1 locs1 hW hS e1 e2 e3 => x_out c10h htab hlocks e1 e2 e3 hW hS (Nat.le_of_ble_eq_true rfl) (Nat.le_of_ble_eq_true rfl)) (fun h0 => absurd h0 c10h)
  refine kx_X11_need hx hb hml hown htg hst hXt hZ hA hK hW hS h6 q396 hl.1 (Nat.le_of_ble_eq_true rfl) (Nat.le_of_ble_eq_true rfl) (Nat.le_of_ble_eq_true rfl) ⟨Nat.le_of_ble_eq_true rfl, Nat.le_of_ble_eq_true rfl⟩ dX11_job_8 (fun hc => absurd rfl hc) (fun _ H locs hW hS => ?_)
  refine lv_aload_n hx hb dX11_job_11 rfl (lv_at hl 0 rfl) ?_
  refine gf_14_0 hx hb htg hown hK hW q17 dX11_job_12 ?_
  refine lv_iload_n hx hb dX11_job_15 rfl (lv_at hl 1 rfl) ?_
  obtain ⟨r12, h11, hX⟩ := bd_go hX
  refine k_X1_jobAt hx hb hml hown htg hK hW hS h11 q619 hl.1 (Nat.le_of_ble_eq_true rfl) (Nat.le_of_ble_eq_true rfl) (Nat.le_of_ble_eq_true rfl) ⟨Nat.le_of_ble_eq_true rfl, Nat.le_of_ble_eq_true rfl⟩ dX11_job_16 (fun H locs hW hS => ?_)
  refine lv_iload_n hx hb dX11_job_19 rfl (lv_at hl 2 rfl) ?_
  obtain ⟨r14, h13, hX⟩ := bd_go hX
  refine k_X5_about hx hb hml hown htg hK hW hS h13 q620 hl.1 (Nat.le_of_ble_eq_true rfl) (Nat.le_of_ble_eq_true rfl) (Nat.le_of_ble_eq_true rfl) ⟨Nat.le_of_ble_eq_true rfl, Nat.le_of_ble_eq_true rfl⟩ dX11_job_20 (fun H locs hW hS => ?_)
  have hX := Option.some.inj hX
  subst hX
  exact vx_ret (W.widen (k := 3) (n := 18) (Nat.le_of_ble_eq_true rfl) (Nat.le_of_ble_eq_true rfl) (rtx_i hx hb hr hlocks hW hS dX11_job_23))
set_option maxHeartbeats 4000000 in
theorem kx_X11_job {p : Program} {l : Launch} {e : Env} {R : Room} {s : State} {m : MethodId} {args : Array Value} {below : List Frame} {meth : Method} {c : Code} {H : Heap} {locs : List Loc} {cells slots : Nat} {Q : State → Prop} {cc : ByteArray} {pc nL idx : Nat} {own : String} {ls : Array Slot} {rest : List Value} {G : Geo} {x y : Mem} {p0 : Int32} {p1 : Int32} {cd : Nat} {v : Int32} {z : Mem} (hx : p.tables.exec = Jvm.exec) (hb : c.code = cc) (hml : c.maxLocals = nL) (hown : s.vm.findClass own = some m.cls) (htg : ∀ w ∈ wsG, w.before args s = true) (hst : l.stackTraces = false) (hXt : Xt s) (hZ : Zt G s s.heap) (hA : ∀ q, s.heap.size ≤ q → gF G q) (hK : Kt G s) (hW : Wh G x y H) (hS : va_S (gF G) s.heap H locs) (h : m_X11_job p0 p1 x = some (cd, v, z)) (hlk : Cond.methodLink own idx yX11_job ∈ wsG) (hn : ls.size = nL) (hr : (rest.map fun v => v.category).sum ≤ 8) (hR1 : 7 + 1 ≤ R.frames) (hR2 : 8 + (3 + 11) + 111 ≤ R.locals) (hf : cells + 3 ≤ R.cells ∧ slots + 18 ≤ R.slots) (hdg : decode cc pc = .ok (.invokevirtual idx, 3)) (kx : ¬ cd = 0 → ∀ (ce : Cell) (q9 : Addr) (H1 : Heap) (locs1 : List Loc), Wh G z y H1 → va_S (gF G) s.heap H1 locs1 → H1[q9]? = some ce → ce.vm = .none → s.vm.findClass (exN cd) = some ce.cls → vx_W p l e R s m args below meth c H1 locs1 (cells + 3) (slots + 18) Q (F0 m pc ls rest) q9) (kk : cd = 0 → ∀ (H1 : Heap) (locs1 : List Loc), Wh G z y H1 → va_S (gF G) s.heap H1 locs1 → W p l e R s m args below meth c H1 locs1 (cells + 3) (slots + 18) Q (F0 m (pc + 3) ls (.int v :: rest))) : W p l e R s m args below meth c H locs cells slots Q (F0 m pc ls (.int p1 :: .int p0 :: .ref (gA G 14 0 0) :: rest)) := by
  refine vx_calli (vx_runV (As := [.int p0, .int p1]) (rest := rest) ⟨hx, hb, hml, hown, htg⟩ (c_X11_job l hst G x y p0 p1 (cd, v, z) h) (cwV 2 htg (gd_V hlk q611 q612 q2 q613) rfl rfl rfl (by decide +kernel) ⟨hR1, hR2⟩) ⟨fun a U g mk q => ⟨q.1, q.2.1.calling, q.2.2.1.calling, q.2.2.2.1.calling, q.2.2.2.2.1, q.2.2.2.2.2⟩, rc_14 hK hW, fun U hU hW9 => ⟨rfl, hK.warm hW9, hXt.warm hW9, by rw [hU]; exact (hZ.kept hS).moved hW9.alike, by rw [hU]; exact fun q hq => hA q (Nat.le_trans hS.1 hq), by rw [hU]; exact hW⟩⟩ rfl rfl hn rfl (lv_room hr) hdg hf) hS (fun _ _ h9 => h9) (fun _ h9 => h9) (fun _ _ h9 => h9) ?_ ?_
  · intro E ce q9 u t H1 locs1 ht hvm hp hB hz hk hS1 e1 e2 e3
    obtain ⟨hc, hE, hB⟩ := hB
    replace hB : Wh G z y t.heap := hB
    rw [ht] at hB
    replace hE : E = exN cd := hE
    subst hE
    exact kx hc ce q9 H1 locs1 hB hS1 e1 e2 e3
  · intro r9 u t H1 locs1 ht hvm hw hB hz1 hk1 hS1
    replace hB : Wh G z y t.heap := hB
    rw [ht] at hB
    obtain ⟨hw, hv⟩ := hw
    replace hv : r9 = v := hv
    subst hv
    exact kk hw H1 locs1 hB hS1
/-! METHOD X11_meanDuration -/
def m_X11_meanDuration (x : Mem) : Option (Nat × UInt64 × Mem) :=
  if (x 2 ↑((0 : Fin 10)) 0 2) = 0 then (some (6, (0 : UInt64), x)) else (gq_ (nn64 (FP.ddiv (FP.i2d (x 2 ↑((0 : Fin 10)) 0 6)) (FP.i2d (x 2 ↑((0 : Fin 10)) 0 2)))) (some (0, (FP.ddiv (FP.i2d (x 2 ↑((0 : Fin 10)) 0 6)) (FP.i2d (x 2 ↑((0 : Fin 10)) 0 2))), x)))
abbrev WS_X11_meanDuration : List Cond := .code yX11_meanDuration cX11_meanDuration 1 (some .double) :: wsG
abbrev RM_X11_meanDuration : Room := { frames := 6, cells := 3, slots := 18, locals := 90 }
set_option maxHeartbeats 4000000 in
set_option maxRecDepth 100000 in
theorem c_X11_meanDuration (l : Launch) (hst : l.stackTraces = false) (G : Geo) (x y : Mem) (r : (Nat × UInt64 × Mem)) (h : m_X11_meanDuration x = some r) : vx_Met l yX11_meanDuration WS_X11_meanDuration RM_X11_meanDuration (Px G x y [.ref (gA G 14 0 0)]) (QXd G r y) (XQg G r y) 3 18 (gF G) := by
  refine vx_ofW (cc := cX11_meanDuration) (maxL := 1) (ret := (some .double)) (by decide) rfl ?_
  intro p e s m args below meth c s₁ B hml htab hv
  obtain ⟨rfl, hK, hXt, hZ, hA, hW⟩ := hv
  have hx := B.exec
  have hb := B.bytes
  have hr := B.returns
  have hts := atoms_spec (ws := WS_X11_meanDuration) B.pre
  have htg : ∀ w ∈ wsG, w.before _ s = true := fun w h => hts w (List.mem_cons_of_mem _ h)
  have hown : s.vm.findClass RX11 = some m.cls := findClass_of_methodNamed B.named
  have hlocks := B.notSynchronized
  have hS : va_S (gF G) s.heap s.heap [] := va_S.rf
  have hl := lv_entry ([.ref (gA G 14 0 0)]) (n := 1) (Nat.le_of_ble_eq_true rfl)
  rw [lg_entry_eq]
  generalize (lg_sl ([.ref (gA G 14 0 0)]) ++ List.replicate (1 - (lg_sl ([.ref (gA G 14 0 0)])).length) Slot.unset).toArray = ls at hl ⊢
  have hl : lv_has ls 1 [(0, .ref (gA G 14 0 0))] := hl
  have hX := h
  unfold m_X11_meanDuration at hX
  refine lv_aload_n hx hb dX11_meanDuration_0 rfl (lv_at hl 0 rfl) ?_
  refine gf_14_0 hx hb htg hown hK hW q17 dX11_meanDuration_1 ?_
  refine gf_2_2 hx hb htg hown hK hW (0 : Fin 10) q678 dX11_meanDuration_4 ?_
  refine lv_if_ne (tgt := 21) hx hb dX11_meanDuration_7 (by decide) (fun c1 => ?_) (fun c1 => ?_)
  · have hX := it_f hX c1
    refine lv_aload_n hx hb dX11_meanDuration_21 rfl (lv_at hl 0 rfl) ?_
    refine gf_14_0 hx hb htg hown hK hW q17 dX11_meanDuration_22 ?_
    refine gf_2_6 hx hb htg hown hK hW (0 : Fin 10) q1060 dX11_meanDuration_25 ?_
    refine lv_i2d hx hb dX11_meanDuration_28 ?_
    refine lv_aload_n hx hb dX11_meanDuration_29 rfl (lv_at hl 0 rfl) ?_
    refine gf_14_0 hx hb htg hown hK hW q17 dX11_meanDuration_30 ?_
    refine gf_2_2 hx hb htg hown hK hW (0 : Fin 10) q678 dX11_meanDuration_33 ?_
    refine lv_i2d hx hb dX11_meanDuration_36 ?_
    obtain ⟨g2, hX⟩ := gq_go hX
    refine lv_ddiv hx hb dX11_meanDuration_37 (nn64_ok g2) ?_
    have hX := Option.some.inj hX
    subst hX
    exact vx_ret (W.widen (k := 3) (n := 18) (Nat.le_of_ble_eq_true rfl) (Nat.le_of_ble_eq_true rfl) (rtx_d hx hb hr hlocks hW hS dX11_meanDuration_38))
  · have hX := it_t hX c1
    have hX := Option.some.inj hX
    subst hX
    exact thW_6 hx hb hst htg hown hXt hZ hW hS (hl.1.trans hml.symm) (List.mem_of_getElem? (i := 15) rfl) dX11_meanDuration_10 dX11_meanDuration_13 dX11_meanDuration_14 dX11_meanDuration_17 dX11_meanDuration_20 htab (Nat.le_of_ble_eq_true rfl) (Nat.le_of_ble_eq_true rfl) (Nat.le_of_ble_eq_true rfl) (Nat.le_of_ble_eq_true rfl) hlocks (Nat.le_of_ble_eq_true rfl) (Nat.le_of_ble_eq_true rfl)
set_option maxHeartbeats 4000000 in
theorem kx_X11_meanDuration {p : Program} {l : Launch} {e : Env} {R : Room} {s : State} {m : MethodId} {args : Array Value} {below : List Frame} {meth : Method} {c : Code} {H : Heap} {locs : List Loc} {cells slots : Nat} {Q : State → Prop} {cc : ByteArray} {pc nL idx : Nat} {own : String} {ls : Array Slot} {rest : List Value} {G : Geo} {x y : Mem} {cd : Nat} {v : UInt64} {z : Mem} (hx : p.tables.exec = Jvm.exec) (hb : c.code = cc) (hml : c.maxLocals = nL) (hown : s.vm.findClass own = some m.cls) (htg : ∀ w ∈ wsG, w.before args s = true) (hst : l.stackTraces = false) (hXt : Xt s) (hZ : Zt G s s.heap) (hA : ∀ q, s.heap.size ≤ q → gF G q) (hK : Kt G s) (hW : Wh G x y H) (hS : va_S (gF G) s.heap H locs) (h : m_X11_meanDuration x = some (cd, v, z)) (hlk : Cond.methodLink own idx yX11_meanDuration ∈ wsG) (hn : ls.size = nL) (hr : (rest.map fun v => v.category).sum ≤ 8) (hR1 : 6 + 1 ≤ R.frames) (hR2 : 8 + (1 + 11) + 90 ≤ R.locals) (hf : cells + 3 ≤ R.cells ∧ slots + 18 ≤ R.slots) (hdg : decode cc pc = .ok (.invokevirtual idx, 3)) (kx : ¬ cd = 0 → ∀ (ce : Cell) (q9 : Addr) (H1 : Heap) (locs1 : List Loc), Wh G z y H1 → va_S (gF G) s.heap H1 locs1 → H1[q9]? = some ce → ce.vm = .none → s.vm.findClass (exN cd) = some ce.cls → vx_W p l e R s m args below meth c H1 locs1 (cells + 3) (slots + 18) Q (F0 m pc ls rest) q9) (kk : cd = 0 → ∀ (H1 : Heap) (locs1 : List Loc), Wh G z y H1 → va_S (gF G) s.heap H1 locs1 → W p l e R s m args below meth c H1 locs1 (cells + 3) (slots + 18) Q (F0 m (pc + 3) ls (.double v :: rest))) : W p l e R s m args below meth c H locs cells slots Q (F0 m pc ls (.ref (gA G 14 0 0) :: rest)) := by
  refine vx_calld (vx_runV (As := []) (rest := rest) ⟨hx, hb, hml, hown, htg⟩ (c_X11_meanDuration l hst G x y (cd, v, z) h) (cwV 0 htg (gd_V hlk q1057 q1058 q2 q1059) rfl rfl rfl (by decide +kernel) ⟨hR1, hR2⟩) ⟨fun a U g mk q => ⟨q.1, q.2.1.calling, q.2.2.1.calling, q.2.2.2.1.calling, q.2.2.2.2.1, q.2.2.2.2.2⟩, rc_14 hK hW, fun U hU hW9 => ⟨rfl, hK.warm hW9, hXt.warm hW9, by rw [hU]; exact (hZ.kept hS).moved hW9.alike, by rw [hU]; exact fun q hq => hA q (Nat.le_trans hS.1 hq), by rw [hU]; exact hW⟩⟩ rfl rfl hn rfl (lv_room hr) hdg hf) hS (fun _ _ h9 => h9) (fun _ h9 => h9) (fun _ _ h9 => h9) ?_ ?_
  · intro E ce q9 u t H1 locs1 ht hvm hp hB hz hk hS1 e1 e2 e3
    obtain ⟨hc, hE, hB⟩ := hB
    replace hB : Wh G z y t.heap := hB
    rw [ht] at hB
    replace hE : E = exN cd := hE
    subst hE
    exact kx hc ce q9 H1 locs1 hB hS1 e1 e2 e3
  · intro r9 u t H1 locs1 ht hvm hw hB hz1 hk1 hS1
    replace hB : Wh G z y t.heap := hB
    rw [ht] at hB
    obtain ⟨hw, hv⟩ := hw
    replace hv : r9 = v := hv
    subst hv
    exact kk hw H1 locs1 hB hS1
/-! METHOD X11_part -/
def m_X11_part (p0 : Int32) (p1 : Int32) (x : Mem) : Option (Nat × Int32 × Mem) :=
  bx_ (m_X11_needBuffer p0 x) fun v4 x3 => bd_ (m_X1_storeAt (0 : Fin 10) p0) fun r7 => bd_ (m_X11_isWithin p1 (0 : Int32) ((x3 9 ↑r7.1 ↑r7.2 1) - (1 : Int32))) fun r9 => if r9 = 0 then (some (5, (0 : Int32), x3)) else (bd_ (m_X9_partAt r7 p1 x3) fun r12 => some (0, r12, x3))
abbrev WS_X11_part : List Cond := .code yX11_part cX11_part 4 (some .int) :: wsG
abbrev RM_X11_part : Room := { frames := 7, cells := 3, slots := 18, locals := 110 }
set_option maxHeartbeats 4000000 in
set_option maxRecDepth 100000 in
theorem c_X11_part (l : Launch) (hst : l.stackTraces = false) (G : Geo) (x y : Mem) (p0 : Int32) (p1 : Int32) (r : (Nat × Int32 × Mem)) (h : m_X11_part p0 p1 x = some r) : vx_Met l yX11_part WS_X11_part RM_X11_part (Px G x y [.ref (gA G 14 0 0), .int p0, .int p1]) (QXi G r y) (XQ G r y) 3 18 (gF G) := by
  refine vx_ofW (cc := cX11_part) (maxL := 4) (ret := (some .int)) (by decide) rfl ?_
  intro p e s m args below meth c s₁ B hml htab hv
  obtain ⟨rfl, hK, hXt, hZ, hA, hW⟩ := hv
  have hx := B.exec
  have hb := B.bytes
  have hr := B.returns
  have hts := atoms_spec (ws := WS_X11_part) B.pre
  have htg : ∀ w ∈ wsG, w.before _ s = true := fun w h => hts w (List.mem_cons_of_mem _ h)
  have hown : s.vm.findClass RX11 = some m.cls := findClass_of_methodNamed B.named
  have hlocks := B.notSynchronized
  have hS : va_S (gF G) s.heap s.heap [] := va_S.rf
  have hl := lv_entry ([.ref (gA G 14 0 0), .int p0, .int p1]) (n := 4) (Nat.le_of_ble_eq_true rfl)
  rw [lg_entry_eq]
  generalize (lg_sl ([.ref (gA G 14 0 0), .int p0, .int p1]) ++ List.replicate (4 - (lg_sl ([.ref (gA G 14 0 0), .int p0, .int p1])).length) Slot.unset).toArray = ls at hl ⊢
  have hl : lv_has ls 4 [(0, .ref (gA G 14 0 0)), (1, .int p0), (2, .int p1)] := hl
  have hX := h
  unfold m_X11_part at hX
  refine lv_iload_n hx hb dX11_part_0 rfl (lv_at hl 1 rfl) ?_
  rcases bx_go hX with ⟨v4, x3, h1, hX⟩ | ⟨c5, v4, x3, c5h, h1, hX⟩
  rotate_left
  · subst hX; exact kx_X11_needBuffer hx hb hml hown htg hst hXt hZ hA hK hW hS h1 q419 hl.1 (Nat.le_of_ble_eq_true rfl) (Nat.le_of_ble_eq_true rfl) (Nat.le_of_ble_eq_true rfl) ⟨Nat.le_of_ble_eq_true rfl, Nat.le_of_ble_eq_true rfl⟩ dX11_part_1 (fun hc ce q9 H1 locs1 hW hS e1 e2 e3 => x_out c5h htab hlocks e1 e2 e3 hW hS (Nat.le_of_ble_eq_true rfl) (Nat.le_of_ble_eq_true rfl)) (fun h0 => absurd h0 c5h)
  refine kx_X11_needBuffer hx hb hml hown htg hst hXt hZ hA hK hW hS h1 q419 hl.1 (Nat.le_of_ble_eq_true rfl) (Nat.le_of_ble_eq_true rfl) (Nat.le_of_ble_eq_true rfl) ⟨Nat.le_of_ble_eq_true rfl, Nat.le_of_ble_eq_true rfl⟩ dX11_part_1 (fun hc => absurd rfl hc) (fun _ H locs hW hS => ?_)
  refine lv_aload_n hx hb dX11_part_4 rfl (lv_at hl 0 rfl) ?_
  refine gf_14_0 hx hb htg hown hK hW q17 dX11_part_5 ?_
  refine lv_iload_n hx hb dX11_part_8 rfl (lv_at hl 1 rfl) ?_
  obtain ⟨r7, h6, hX⟩ := bd_go hX
  refine k_X1_storeAt hx hb hml hown htg hK hW hS h6 q422 hl.1 (Nat.le_of_ble_eq_true rfl) (Nat.le_of_ble_eq_true rfl) (Nat.le_of_ble_eq_true rfl) ⟨Nat.le_of_ble_eq_true rfl, Nat.le_of_ble_eq_true rfl⟩ dX11_part_9 (fun H locs hW hS => ?_)
  refine lv_astore_n (lv' := [(3, .ref (gA G 9 ↑r7.1 ↑r7.2)), (0, .ref (gA G 14 0 0)), (1, .int p0), (2, .int p1)]) hx hb dX11_part_12 rfl hl (by decide) rfl (fun ls hl => ?_)
  refine lv_iload_n hx hb dX11_part_13 rfl (lv_at hl 3 rfl) ?_
  refine lv_iconst (v := (0 : Int32)) hx hb dX11_part_14 (by decide) ?_
  refine lv_aload_n hx hb dX11_part_15 rfl (lv_at hl 0 rfl) ?_
  refine gf_9_1 hx hb htg hown hK hW r7 q519 dX11_part_16 ?_
  refine lv_iconst (v := (1 : Int32)) hx hb dX11_part_19 (by decide) ?_
  refine lv_isub hx hb dX11_part_20 ?_
  obtain ⟨r9, h8, hX⟩ := bd_go hX
  refine k_X11_isWithin hx hb hml hown htg hK hW hS h8 q395 hl.1 (Nat.le_of_ble_eq_true rfl) (Nat.le_of_ble_eq_true rfl) (Nat.le_of_ble_eq_true rfl) ⟨Nat.le_of_ble_eq_true rfl, Nat.le_of_ble_eq_true rfl⟩ dX11_part_21 (fun H locs hW hS => ?_)
  refine lv_if_ne (tgt := 37) hx hb dX11_part_24 (by decide) (fun c10 => ?_) (fun c10 => ?_)
  · have hX := it_f hX c10
    refine lv_aload_n hx hb dX11_part_37 rfl (lv_at hl 0 rfl) ?_
    refine lv_iload_n hx hb dX11_part_38 rfl (lv_at hl 3 rfl) ?_
    obtain ⟨r12, h11, hX⟩ := bd_go hX
    refine k_X9_partAt hx hb hml hown htg hK hW hS h11 q520 hl.1 (Nat.le_of_ble_eq_true rfl) (Nat.le_of_ble_eq_true rfl) (Nat.le_of_ble_eq_true rfl) ⟨Nat.le_of_ble_eq_true rfl, Nat.le_of_ble_eq_true rfl⟩ dX11_part_39 (fun H locs hW hS => ?_)
    have hX := Option.some.inj hX
    subst hX
    exact vx_ret (W.widen (k := 3) (n := 18) (Nat.le_of_ble_eq_true rfl) (Nat.le_of_ble_eq_true rfl) (rtx_i hx hb hr hlocks hW hS dX11_part_42))
  · have hX := it_t hX c10
    have hX := Option.some.inj hX
    subst hX
    exact thS_5 hx hb hst htg hown hXt hZ hW hS (hl.1.trans hml.symm) (List.mem_of_getElem? (i := 4) rfl) dX11_part_27 dX11_part_30 dX11_part_31 dX11_part_33 dX11_part_36 htab (Nat.le_of_ble_eq_true rfl) (Nat.le_of_ble_eq_true rfl) (Nat.le_of_ble_eq_true rfl) (Nat.le_of_ble_eq_true rfl) hlocks (Nat.le_of_ble_eq_true rfl) (Nat.le_of_ble_eq_true rfl)
set_option maxHeartbeats 4000000 in
theorem kx_X11_part {p : Program} {l : Launch} {e : Env} {R : Room} {s : State} {m : MethodId} {args : Array Value} {below : List Frame} {meth : Method} {c : Code} {H : Heap} {locs : List Loc} {cells slots : Nat} {Q : State → Prop} {cc : ByteArray} {pc nL idx : Nat} {own : String} {ls : Array Slot} {rest : List Value} {G : Geo} {x y : Mem} {p0 : Int32} {p1 : Int32} {cd : Nat} {v : Int32} {z : Mem} (hx : p.tables.exec = Jvm.exec) (hb : c.code = cc) (hml : c.maxLocals = nL) (hown : s.vm.findClass own = some m.cls) (htg : ∀ w ∈ wsG, w.before args s = true) (hst : l.stackTraces = false) (hXt : Xt s) (hZ : Zt G s s.heap) (hA : ∀ q, s.heap.size ≤ q → gF G q) (hK : Kt G s) (hW : Wh G x y H) (hS : va_S (gF G) s.heap H locs) (h : m_X11_part p0 p1 x = some (cd, v, z)) (hlk : Cond.methodLink own idx yX11_part ∈ wsG) (hn : ls.size = nL) (hr : (rest.map fun v => v.category).sum ≤ 8) (hR1 : 7 + 1 ≤ R.frames) (hR2 : 8 + (4 + 11) + 110 ≤ R.locals) (hf : cells + 3 ≤ R.cells ∧ slots + 18 ≤ R.slots) (hdg : decode cc pc = .ok (.invokevirtual idx, 3)) (kx : ¬ cd = 0 → ∀ (ce : Cell) (q9 : Addr) (H1 : Heap) (locs1 : List Loc), Wh G z y H1 → va_S (gF G) s.heap H1 locs1 → H1[q9]? = some ce → ce.vm = .none → s.vm.findClass (exN cd) = some ce.cls → vx_W p l e R s m args below meth c H1 locs1 (cells + 3) (slots + 18) Q (F0 m pc ls rest) q9) (kk : cd = 0 → ∀ (H1 : Heap) (locs1 : List Loc), Wh G z y H1 → va_S (gF G) s.heap H1 locs1 → W p l e R s m args below meth c H1 locs1 (cells + 3) (slots + 18) Q (F0 m (pc + 3) ls (.int v :: rest))) : W p l e R s m args below meth c H locs cells slots Q (F0 m pc ls (.int p1 :: .int p0 :: .ref (gA G 14 0 0) :: rest)) := by
  refine vx_calli (vx_runV (As := [.int p0, .int p1]) (rest := rest) ⟨hx, hb, hml, hown, htg⟩ (c_X11_part l hst G x y p0 p1 (cd, v, z) h) (cwV 2 htg (gd_V hlk q514 q515 q2 q516) rfl rfl rfl (by decide +kernel) ⟨hR1, hR2⟩) ⟨fun a U g mk q => ⟨q.1, q.2.1.calling, q.2.2.1.calling, q.2.2.2.1.calling, q.2.2.2.2.1, q.2.2.2.2.2⟩, rc_14 hK hW, fun U hU hW9 => ⟨rfl, hK.warm hW9, hXt.warm hW9, by rw [hU]; exact (hZ.kept hS).moved hW9.alike, by rw [hU]; exact fun q hq => hA q (Nat.le_trans hS.1 hq), by rw [hU]; exact hW⟩⟩ rfl rfl hn rfl (lv_room hr) hdg hf) hS (fun _ _ h9 => h9) (fun _ h9 => h9) (fun _ _ h9 => h9) ?_ ?_
  · intro E ce q9 u t H1 locs1 ht hvm hp hB hz hk hS1 e1 e2 e3
    obtain ⟨hc, hE, hB⟩ := hB
    replace hB : Wh G z y t.heap := hB
    rw [ht] at hB
    replace hE : E = exN cd := hE
    subst hE
    exact kx hc ce q9 H1 locs1 hB hS1 e1 e2 e3
  · intro r9 u t H1 locs1 ht hvm hw hB hz1 hk1 hS1
    replace hB : Wh G z y t.heap := hB
    rw [ht] at hB
    obtain ⟨hw, hv⟩ := hw
    replace hv : r9 = v := hv
    subst hv
    exact kk hw H1 locs1 hB hS1
/-! METHOD X11_perform -/
def m_X11_perform_b31 (k31 : Int32 → Mem → Option (Nat × Int32 × Mem)) (x2 : Int32) (x : Mem) : Option (Nat × Int32 × Mem) :=
  if (x 22 0 0 0) ≤ x2 then (bd_ (m_X4_keep (0 : Fin 10) x) fun x13 => bd_ (m_X1_copyFrom (0 : Fin 10) (1 : Fin 10) x13) fun x16 => some (0, (x16 22 0 0 0), x16)) else (bd_ (m_X3_commandAt x2) fun r18 => bd2_ (m_X11_carryOut r18 x) fun r20 x21 => if r20 = 0 then (some (4, (0 : Int32), x21)) else (lt_ (x2 + (1 : Int32)) fun x2_23 => k31 x2_23 x21))
def m_X11_perform_l31 : Nat → Int32 → Mem → Option (Nat × Int32 × Mem)
  | 0, _, _ => none
  | n + 1, x2, x => m_X11_perform_b31 (m_X11_perform_l31 n) x2 x
def m_X11_perform (x : Mem) : Option (Nat × Int32 × Mem) :=
  bd2_ (m_X3_readCommands x) fun r2 x3 => lt_ r2 fun x1_4 => if x1_4 = (-1 : Int32) then (bd_ (m_X1_copyFrom (1 : Fin 10) (0 : Fin 10) x3) fun x8 => lt_ (0 : Int32) fun x2_9 => m_X11_perform_l31 FU x2_9 x8) else (some (0, ((-100 : Int32) - x1_4), x3))
abbrev WS_X11_perform : List Cond := .code yX11_perform cX11_perform 3 (some .int) :: wsG
abbrev RM_X11_perform : Room := { frames := 6, cells := 3, slots := 18, locals := 143 }
set_option maxHeartbeats 4000000 in
set_option maxRecDepth 100000 in
theorem c_X11_perform (l : Launch) (hst : l.stackTraces = false) (G : Geo) (x y : Mem) (r : (Nat × Int32 × Mem)) (h : m_X11_perform x = some r) : vx_Met l yX11_perform WS_X11_perform RM_X11_perform (Px G x y [.ref (gA G 14 0 0)]) (QXi G r y) (XQ G r y) 3 18 (gF G) := by
  refine vx_ofW (cc := cX11_perform) (maxL := 3) (ret := (some .int)) (by decide) rfl ?_
  intro p e s m args below meth c s₁ B hml htab hv
  obtain ⟨rfl, hK, hXt, hZ, hA, hW⟩ := hv
  have hx := B.exec
  have hb := B.bytes
  have hr := B.returns
  have hts := atoms_spec (ws := WS_X11_perform) B.pre
  have htg : ∀ w ∈ wsG, w.before _ s = true := fun w h => hts w (List.mem_cons_of_mem _ h)
  have hown : s.vm.findClass RX11 = some m.cls := findClass_of_methodNamed B.named
  have hlocks := B.notSynchronized
  have hS : va_S (gF G) s.heap s.heap [] := va_S.rf
  have hl := lv_entry ([.ref (gA G 14 0 0)]) (n := 3) (Nat.le_of_ble_eq_true rfl)
  rw [lg_entry_eq]
  generalize (lg_sl ([.ref (gA G 14 0 0)]) ++ List.replicate (3 - (lg_sl ([.ref (gA G 14 0 0)])).length) Slot.unset).toArray = ls at hl ⊢
  have hl : lv_has ls 3 [(0, .ref (gA G 14 0 0))] := hl
  have hX := h
  unfold m_X11_perform at hX
  have B_31 : ∀ (k31 : Int32 → Mem → Option (Nat × Int32 × Mem)) (hk31 : ∀ (x2 : Int32) (x : Mem) (H : Heap) (locs : List Loc) (ls : Array Slot), Wh G x y H → va_S (gF G) s.heap H locs → lv_has ls 3 [(0, .ref (gA G 14 0 0)), (2, .int x2)] → k31 x2 x = some r → W p l e (headSpec WS_X11_perform RM_X11_perform).room s m ([.ref (gA G 14 0 0)] : List Value).toArray below meth c H locs 0 0 (vx_MQ below (QXi G r y) (XQ G r y) ([.ref (gA G 14 0 0)] : List Value).toArray s 3 18 (gF G)) (F0 m 31 ls [])), ∀ (x2 : Int32) (x : Mem) (H : Heap) (locs : List Loc) (ls : Array Slot), Wh G x y H → va_S (gF G) s.heap H locs → lv_has ls 3 [(0, .ref (gA G 14 0 0)), (2, .int x2)] → m_X11_perform_b31 k31 x2 x = some r → W p l e (headSpec WS_X11_perform RM_X11_perform).room s m ([.ref (gA G 14 0 0)] : List Value).toArray below meth c H locs 0 0 (vx_MQ below (QXi G r y) (XQ G r y) ([.ref (gA G 14 0 0)] : List Value).toArray s 3 18 (gF G)) (F0 m 31 ls []) := by
    intro k31 hk31 x2 x H locs ls hW hS hl hX
    unfold m_X11_perform_b31 at hX
    refine lv_iload_n hx hb dX11_perform_31 rfl (lv_at hl 1 rfl) ?_
    refine lv_aload_n hx hb dX11_perform_32 rfl (lv_at hl 0 rfl) ?_
    refine gf_14_6 hx hb htg hown hK hW q32 dX11_perform_33 ?_
    refine gf_22_0 hx hb htg hown hK hW q1093 dX11_perform_36 ?_
    refine lv_icmp_ge (tgt := 74) hx hb dX11_perform_39 (by decide) (fun c10 => ?_) (fun c10 => ?_)
    · have hX := it_t hX c10
      refine lv_aload_n hx hb dX11_perform_74 rfl (lv_at hl 0 rfl) ?_
      refine gf_14_4 hx hb htg hown hK hW q24 dX11_perform_75 ?_
      refine lv_aload_n hx hb dX11_perform_78 rfl (lv_at hl 0 rfl) ?_
      refine gf_14_0 hx hb htg hown hK hW q17 dX11_perform_79 ?_
      obtain ⟨x13, h11, hX⟩ := bd_go hX
      refine k_X4_keep hx hb hml hown htg hK hW hS h11 q225 hl.1 (Nat.le_of_ble_eq_true rfl) (Nat.le_of_ble_eq_true rfl) (Nat.le_of_ble_eq_true rfl) ⟨Nat.le_of_ble_eq_true rfl, Nat.le_of_ble_eq_true rfl⟩ dX11_perform_82 (fun H locs hW hS => ?_)
      refine lv_aload_n hx hb dX11_perform_85 rfl (lv_at hl 0 rfl) ?_
      refine gf_14_0 hx hb htg hown hK hW q17 dX11_perform_86 ?_
      refine lv_aload_n hx hb dX11_perform_89 rfl (lv_at hl 0 rfl) ?_
      refine gf_14_1 hx hb htg hown hK hW q18 dX11_perform_90 ?_
      obtain ⟨x16, h14, hX⟩ := bd_go hX
      refine k_X1_copyFrom hx hb hml hown htg hK hW hS h14 q943 hl.1 (Nat.le_of_ble_eq_true rfl) (Nat.le_of_ble_eq_true rfl) (Nat.le_of_ble_eq_true rfl) ⟨Nat.le_of_ble_eq_true rfl, Nat.le_of_ble_eq_true rfl⟩ dX11_perform_93 (fun H locs hW hS => ?_)
      refine lv_aload_n hx hb dX11_perform_96 rfl (lv_at hl 0 rfl) ?_
      refine gf_14_6 hx hb htg hown hK hW q32 dX11_perform_97 ?_
      refine gf_22_0 hx hb htg hown hK hW q1093 dX11_perform_100 ?_
      have hX := Option.some.inj hX
      subst hX
      exact vx_ret (W.widen (k := 3) (n := 18) (Nat.le_of_ble_eq_true rfl) (Nat.le_of_ble_eq_true rfl) (rtx_i hx hb hr hlocks hW hS dX11_perform_103))
    · have hX := it_f hX c10
      refine lv_aload_n hx hb dX11_perform_42 rfl (lv_at hl 0 rfl) ?_
      refine lv_aload_n hx hb dX11_perform_43 rfl (lv_at hl 0 rfl) ?_
      refine gf_14_6 hx hb htg hown hK hW q32 dX11_perform_44 ?_
      refine lv_iload_n hx hb dX11_perform_47 rfl (lv_at hl 1 rfl) ?_
      obtain ⟨r18, h17, hX⟩ := bd_go hX
      refine k_X3_commandAt hx hb hml hown htg hK hW hS h17 q1156 hl.1 (Nat.le_of_ble_eq_true rfl) (Nat.le_of_ble_eq_true rfl) (Nat.le_of_ble_eq_true rfl) ⟨Nat.le_of_ble_eq_true rfl, Nat.le_of_ble_eq_true rfl⟩ dX11_perform_48 (fun H locs hW hS => ?_)
      obtain ⟨r20, x21, h19, hX⟩ := bd2_go hX
      refine k_X11_carryOut hx hb hml hown htg hK hW hS h19 q1157 hl.1 (Nat.le_of_ble_eq_true rfl) (Nat.le_of_ble_eq_true rfl) (Nat.le_of_ble_eq_true rfl) ⟨Nat.le_of_ble_eq_true rfl, Nat.le_of_ble_eq_true rfl⟩ dX11_perform_51 (fun H locs hW hS => ?_)
      refine lv_if_ne (tgt := 68) hx hb dX11_perform_54 (by decide) (fun c22 => ?_) (fun c22 => ?_)
      · have hX := it_f hX c22
        obtain ⟨x2_23, e9⟩ : ∃ w : Int32, w = (x2 + (1 : Int32)) := ⟨_, rfl⟩
        have hX := lt_go hX e9
        refine lv_iinc (v := x2_23) (lv' := [(2, .int x2_23), (0, .ref (gA G 14 0 0))]) hx hb dX11_perform_68 hl (k := 1) rfl (by rw [e9]; rfl) (by decide) rfl (fun ls hl => ?_)
        refine lv_goto (tgt := 31) hx hb dX11_perform_71 (by decide) ?_
        exact hk31 _ _ _ _ _ hW hS (lv_sub hl [1, 0] rfl) hX
      · have hX := it_t hX c22
        have hX := Option.some.inj hX
        subst hX
        exact thW_4 hx hb hst htg hown hXt hZ hW hS (hl.1.trans hml.symm) (List.mem_of_getElem? (i := 17) rfl) dX11_perform_57 dX11_perform_60 dX11_perform_61 dX11_perform_64 dX11_perform_67 htab (Nat.le_of_ble_eq_true rfl) (Nat.le_of_ble_eq_true rfl) (Nat.le_of_ble_eq_true rfl) (Nat.le_of_ble_eq_true rfl) hlocks (Nat.le_of_ble_eq_true rfl) (Nat.le_of_ble_eq_true rfl)
  have L_31 : ∀ (n : Nat), ∀ (x2 : Int32) (x : Mem) (H : Heap) (locs : List Loc) (ls : Array Slot), Wh G x y H → va_S (gF G) s.heap H locs → lv_has ls 3 [(0, .ref (gA G 14 0 0)), (2, .int x2)] → m_X11_perform_l31 n x2 x = some r → W p l e (headSpec WS_X11_perform RM_X11_perform).room s m ([.ref (gA G 14 0 0)] : List Value).toArray below meth c H locs 0 0 (vx_MQ below (QXi G r y) (XQ G r y) ([.ref (gA G 14 0 0)] : List Value).toArray s 3 18 (gF G)) (F0 m 31 ls []) := by
    intro n
    induction n with
    | zero => intro x2 x H locs ls hW hS hl hX; exact no_go hX
    | succ n ih => intro x2 x H locs ls hW hS hl hX; exact B_31 _ ih _ _ _ _ _ hW hS hl hX
  refine lv_aload_n hx hb dX11_perform_0 rfl (lv_at hl 0 rfl) ?_
  refine gf_14_6 hx hb htg hown hK hW q32 dX11_perform_1 ?_
  obtain ⟨r2, x3, h1, hX⟩ := bd2_go hX
  refine k_X3_readCommands hx hb hml hown htg hK hW hS h1 q1094 hl.1 (Nat.le_of_ble_eq_true rfl) (Nat.le_of_ble_eq_true rfl) (Nat.le_of_ble_eq_true rfl) ⟨Nat.le_of_ble_eq_true rfl, Nat.le_of_ble_eq_true rfl⟩ dX11_perform_4 (fun H locs hW hS => ?_)
  refine lv_topi (fun x1_4 e9 => ?_)
  have hX := lt_go hX e9
  refine lv_istore_n (lv' := [(1, .int x1_4), (0, .ref (gA G 14 0 0))]) hx hb dX11_perform_7 rfl hl (by decide) rfl (fun ls hl => ?_)
  refine lv_iload_n hx hb dX11_perform_8 rfl (lv_at hl 0 rfl) ?_
  refine lv_iconst (v := (-1 : Int32)) hx hb dX11_perform_9 (by decide) ?_
  refine lv_icmp_eq (tgt := 18) hx hb dX11_perform_10 (by decide) (fun c5 => ?_) (fun c5 => ?_)
  · have hX := it_t hX c5
    refine lv_aload_n hx hb dX11_perform_18 rfl (lv_at hl 1 rfl) ?_
    refine gf_14_1 hx hb htg hown hK hW q18 dX11_perform_19 ?_
    refine lv_aload_n hx hb dX11_perform_22 rfl (lv_at hl 1 rfl) ?_
    refine gf_14_0 hx hb htg hown hK hW q17 dX11_perform_23 ?_
    obtain ⟨x8, h6, hX⟩ := bd_go hX
    refine k_X1_copyFrom hx hb hml hown htg hK hW hS h6 q943 hl.1 (Nat.le_of_ble_eq_true rfl) (Nat.le_of_ble_eq_true rfl) (Nat.le_of_ble_eq_true rfl) ⟨Nat.le_of_ble_eq_true rfl, Nat.le_of_ble_eq_true rfl⟩ dX11_perform_26 (fun H locs hW hS => ?_)
    refine lv_iconst (v := (0 : Int32)) hx hb dX11_perform_29 (by decide) ?_
    refine lv_topi (fun x2_9 e9 => ?_)
    have hX := lt_go hX e9
    refine lv_istore_n (lv' := [(2, .int x2_9), (1, .int x1_4), (0, .ref (gA G 14 0 0))]) hx hb dX11_perform_30 rfl hl (by decide) rfl (fun ls hl => ?_)
    exact L_31 FU _ _ _ _ _ hW hS (lv_sub hl [2, 0] rfl) hX
  · have hX := it_f hX c5
    refine lv_bipush (v := (-100 : Int32)) hx hb dX11_perform_13 (by decide) ?_
    refine lv_iload_n hx hb dX11_perform_15 rfl (lv_at hl 0 rfl) ?_
    refine lv_isub hx hb dX11_perform_16 ?_
    have hX := Option.some.inj hX
    subst hX
    exact vx_ret (W.widen (k := 3) (n := 18) (Nat.le_of_ble_eq_true rfl) (Nat.le_of_ble_eq_true rfl) (rtx_i hx hb hr hlocks hW hS dX11_perform_17))
set_option maxHeartbeats 4000000 in
theorem kx_X11_perform {p : Program} {l : Launch} {e : Env} {R : Room} {s : State} {m : MethodId} {args : Array Value} {below : List Frame} {meth : Method} {c : Code} {H : Heap} {locs : List Loc} {cells slots : Nat} {Q : State → Prop} {cc : ByteArray} {pc nL idx : Nat} {own : String} {ls : Array Slot} {rest : List Value} {G : Geo} {x y : Mem} {cd : Nat} {v : Int32} {z : Mem} (hx : p.tables.exec = Jvm.exec) (hb : c.code = cc) (hml : c.maxLocals = nL) (hown : s.vm.findClass own = some m.cls) (htg : ∀ w ∈ wsG, w.before args s = true) (hst : l.stackTraces = false) (hXt : Xt s) (hZ : Zt G s s.heap) (hA : ∀ q, s.heap.size ≤ q → gF G q) (hK : Kt G s) (hW : Wh G x y H) (hS : va_S (gF G) s.heap H locs) (h : m_X11_perform x = some (cd, v, z)) (hlk : Cond.methodLink own idx yX11_perform ∈ wsG) (hn : ls.size = nL) (hr : (rest.map fun v => v.category).sum ≤ 8) (hR1 : 6 + 1 ≤ R.frames) (hR2 : 8 + (3 + 11) + 143 ≤ R.locals) (hf : cells + 3 ≤ R.cells ∧ slots + 18 ≤ R.slots) (hdg : decode cc pc = .ok (.invokevirtual idx, 3)) (kx : ¬ cd = 0 → ∀ (ce : Cell) (q9 : Addr) (H1 : Heap) (locs1 : List Loc), Wh G z y H1 → va_S (gF G) s.heap H1 locs1 → H1[q9]? = some ce → ce.vm = .none → s.vm.findClass (exN cd) = some ce.cls → vx_W p l e R s m args below meth c H1 locs1 (cells + 3) (slots + 18) Q (F0 m pc ls rest) q9) (kk : cd = 0 → ∀ (H1 : Heap) (locs1 : List Loc), Wh G z y H1 → va_S (gF G) s.heap H1 locs1 → W p l e R s m args below meth c H1 locs1 (cells + 3) (slots + 18) Q (F0 m (pc + 3) ls (.int v :: rest))) : W p l e R s m args below meth c H locs cells slots Q (F0 m pc ls (.ref (gA G 14 0 0) :: rest)) := by
  refine vx_calli (vx_runV (As := []) (rest := rest) ⟨hx, hb, hml, hown, htg⟩ (c_X11_perform l hst G x y (cd, v, z) h) (cwV 0 htg (gd_V hlk q1090 q1091 q2 q1092) rfl rfl rfl (by decide +kernel) ⟨hR1, hR2⟩) ⟨fun a U g mk q => ⟨q.1, q.2.1.calling, q.2.2.1.calling, q.2.2.2.1.calling, q.2.2.2.2.1, q.2.2.2.2.2⟩, rc_14 hK hW, fun U hU hW9 => ⟨rfl, hK.warm hW9, hXt.warm hW9, by rw [hU]; exact (hZ.kept hS).moved hW9.alike, by rw [hU]; exact fun q hq => hA q (Nat.le_trans hS.1 hq), by rw [hU]; exact hW⟩⟩ rfl rfl hn rfl (lv_room hr) hdg hf) hS (fun _ _ h9 => h9) (fun _ h9 => h9) (fun _ _ h9 => h9) ?_ ?_
  · intro E ce q9 u t H1 locs1 ht hvm hp hB hz hk hS1 e1 e2 e3
    obtain ⟨hc, hE, hB⟩ := hB
    replace hB : Wh G z y t.heap := hB
    rw [ht] at hB
    replace hE : E = exN cd := hE
    subst hE
    exact kx hc ce q9 H1 locs1 hB hS1 e1 e2 e3
  · intro r9 u t H1 locs1 ht hvm hw hB hz1 hk1 hS1
    replace hB : Wh G z y t.heap := hB
    rw [ht] at hB
    obtain ⟨hw, hv⟩ := hw
    replace hv : r9 = v := hv
    subst hv
    exact kk hw H1 locs1 hB hS1
