/-! METHOD X11_need -/
def m_X11_need (p0 : Int32) (p1 : Int32) (x : Mem) : Option (Nat × Int32 × Mem) :=
  bd_ (m_X11_isWithin p0 (0 : Int32) p1) fun r2 => if r2 = 0 then (some (2, (0 : Int32), x)) else (some (0, (0 : Int32), x))
abbrev WS_X11_need : List Cond := .code yX11_need cX11_need 2 none :: wsG
abbrev RM_X11_need : Room := { frames := 6, cells := 1, slots := 6, locals := 90 }
set_option maxHeartbeats 4000000 in
set_option maxRecDepth 100000 in
theorem c_X11_need (l : Launch) (hst : l.stackTraces = false) (G : Geo) (x y : Mem) (p0 : Int32) (p1 : Int32) (r : (Nat × Int32 × Mem)) (h : m_X11_need p0 p1 x = some r) : vx_Met l yX11_need WS_X11_need RM_X11_need (Px G x y [.int p0, .int p1]) (QXv G r y) (XQ G r y) 1 6 (gF G) := by
  refine vx_ofW (cc := cX11_need) (maxL := 2) (ret := none) (by decide) rfl ?_
  intro p e s m args below meth c s₁ B hml htab hv
  obtain ⟨rfl, hK, hXt, hZ, hA, hW⟩ := hv
  have hx := B.exec
  have hb := B.bytes
  have hr := B.returns
  have hts := atoms_spec (ws := WS_X11_need) B.pre
  have htg : ∀ w ∈ wsG, w.before _ s = true := fun w h => hts w (List.mem_cons_of_mem _ h)
  have hown : s.vm.findClass RX11 = some m.cls := findClass_of_methodNamed B.named
  have hlocks := B.notSynchronized
  have hS : va_S (gF G) s.heap s.heap [] := va_S.rf
  have hl := lv_entry ([.int p0, .int p1]) (n := 2) (Nat.le_of_ble_eq_true rfl)
  rw [lg_entry_eq]
  generalize (lg_sl ([.int p0, .int p1]) ++ List.replicate (2 - (lg_sl ([.int p0, .int p1])).length) Slot.unset).toArray = ls at hl ⊢
  have hl : lv_has ls 2 [(0, .int p0), (1, .int p1)] := hl
  have hX := h
  unfold m_X11_need at hX
  refine lv_iload_n hx hb dX11_need_0 rfl (lv_at hl 0 rfl) ?_
  refine lv_iconst (v := (0 : Int32)) hx hb dX11_need_1 (by decide) ?_
  refine lv_iload_n hx hb dX11_need_2 rfl (lv_at hl 1 rfl) ?_
  obtain ⟨r2, h1, hX⟩ := bd_go hX
  refine k_X11_isWithin hx hb hml hown htg hK hW hS h1 q395 hl.1 (Nat.le_of_ble_eq_true rfl) (Nat.le_of_ble_eq_true rfl) (Nat.le_of_ble_eq_true rfl) ⟨Nat.le_of_ble_eq_true rfl, Nat.le_of_ble_eq_true rfl⟩ dX11_need_3 (fun H locs hW hS => ?_)
  refine lv_if_ne (tgt := 20) hx hb dX11_need_6 (by decide) (fun c3 => ?_) (fun c3 => ?_)
  · have hX := it_f hX c3
    have hX := Option.some.inj hX
    subst hX
    exact vx_ret (W.widen (k := 1) (n := 6) (Nat.le_of_ble_eq_true rfl) (Nat.le_of_ble_eq_true rfl) (rtx_v hx hb hr hlocks hW hS dX11_need_20))
  · have hX := it_t hX c3
    have hX := Option.some.inj hX
    subst hX
    exact thW_2 hx hb hst htg hown hXt hZ hW hS (hl.1.trans hml.symm) (List.mem_of_getElem? (i := 23) rfl) dX11_need_9 dX11_need_12 dX11_need_13 dX11_need_16 dX11_need_19 htab (Nat.le_of_ble_eq_true rfl) (Nat.le_of_ble_eq_true rfl) (Nat.le_of_ble_eq_true rfl) (Nat.le_of_ble_eq_true rfl) hlocks (Nat.le_of_ble_eq_true rfl) (Nat.le_of_ble_eq_true rfl)
set_option maxHeartbeats 4000000 in
theorem kx_X11_need {p : Program} {l : Launch} {e : Env} {R : Room} {s : State} {m : MethodId} {args : Array Value} {below : List Frame} {meth : Method} {c : Code} {H : Heap} {locs : List Loc} {cells slots : Nat} {Q : State → Prop} {cc : ByteArray} {pc nL idx : Nat} {own : String} {ls : Array Slot} {rest : List Value} {G : Geo} {x y : Mem} {p0 : Int32} {p1 : Int32} {cd : Nat} {v : Int32} {z : Mem} (hx : p.tables.exec = Jvm.exec) (hb : c.code = cc) (hml : c.maxLocals = nL) (hown : s.vm.findClass own = some m.cls) (htg : ∀ w ∈ wsG, w.before args s = true) (hst : l.stackTraces = false) (hXt : Xt s) (hZ : Zt G s s.heap) (hA : ∀ q, s.heap.size ≤ q → gF G q) (hK : Kt G s) (hW : Wh G x y H) (hS : va_S (gF G) s.heap H locs) (h : m_X11_need p0 p1 x = some (cd, v, z)) (hlk : Cond.methodLink own idx yX11_need ∈ wsG) (hn : ls.size = nL) (hr : (rest.map fun v => v.category).sum ≤ 8) (hR1 : 6 + 1 ≤ R.frames) (hR2 : 8 + (2 + 11) + 90 ≤ R.locals) (hf : cells + 1 ≤ R.cells ∧ slots + 6 ≤ R.slots) (hdg : decode cc pc = .ok (.invokestatic idx, 3)) (kx : ¬ cd = 0 → ∀ (ce : Cell) (q9 : Addr) (H1 : Heap) (locs1 : List Loc), Wh G z y H1 → va_S (gF G) s.heap H1 locs1 → H1[q9]? = some ce → ce.vm = .none → s.vm.findClass (exN cd) = some ce.cls → vx_W p l e R s m args below meth c H1 locs1 (cells + 1) (slots + 6) Q (F0 m pc ls rest) q9) (kk : cd = 0 → ∀ (H1 : Heap) (locs1 : List Loc), Wh G z y H1 → va_S (gF G) s.heap H1 locs1 → W p l e R s m args below meth c H1 locs1 (cells + 1) (slots + 6) Q (F0 m (pc + 3) ls (rest))) : W p l e R s m args below meth c H locs cells slots Q (F0 m pc ls (.int p1 :: .int p0 :: rest)) := by
  refine vx_callv (vx_runS (As := [.int p0, .int p1]) (rest := rest) ⟨hx, hb, hml, hown, htg⟩ (c_X11_need l hst G x y p0 p1 (cd, v, z) h) (va_cwS 2 htg (gd_S hlk q397 q2 q398) rfl rfl rfl (by decide +kernel) ⟨hR1, hR2⟩) ⟨fun a U g mk q => ⟨q.1, q.2.1.calling, q.2.2.1.calling, q.2.2.2.1.calling, q.2.2.2.2.1, q.2.2.2.2.2⟩, fun U hU hW9 => ⟨rfl, hK.warm hW9, hXt.warm hW9, by rw [hU]; exact (hZ.kept hS).moved hW9.alike, by rw [hU]; exact fun q hq => hA q (Nat.le_trans hS.1 hq), by rw [hU]; exact hW⟩⟩ rfl rfl hn rfl (lv_room hr) hdg hf) hS (fun _ _ h9 => h9) (fun _ h9 => h9) (fun _ _ h9 => h9) ?_ ?_
  · intro E ce q9 u t H1 locs1 ht hvm hp hB hz hk hS1 e1 e2 e3
    obtain ⟨hc, hE, hB⟩ := hB
    replace hB : Wh G z y t.heap := hB
    rw [ht] at hB
    replace hE : E = exN cd := hE
    subst hE
    exact kx hc ce q9 H1 locs1 hB hS1 e1 e2 e3
  · intro u t H1 locs1 ht hvm hw hB hz1 hk1 hS1
    replace hB : Wh G z y t.heap := hB
    rw [ht] at hB
    exact kk hw H1 locs1 hB hS1
/-! METHOD X11_account -/
def m_X11_account (p0 : Int32) (x : Mem) : Option (Nat × Int32 × Mem) :=
  bx_ (m_X11_need p0 (9 : Int32) x) fun v4 x3 => bd_ (m_X1_accountOf (0 : Fin 10) p0 x3) fun r7 => some (0, r7, x3)
abbrev WS_X11_account : List Cond := .code yX11_account cX11_account 2 (some .int) :: wsG
abbrev RM_X11_account : Room := { frames := 7, cells := 3, slots := 18, locals := 111 }
set_option maxHeartbeats 4000000 in
set_option maxRecDepth 100000 in
theorem c_X11_account (l : Launch) (hst : l.stackTraces = false) (G : Geo) (x y : Mem) (p0 : Int32) (r : (Nat × Int32 × Mem)) (h : m_X11_account p0 x = some r) : vx_Met l yX11_account WS_X11_account RM_X11_account (Px G x y [.ref (gA G 14 0 0), .int p0]) (QXi G r y) (XQ G r y) 3 18 (gF G) := by
  refine vx_ofW (cc := cX11_account) (maxL := 2) (ret := (some .int)) (by decide) rfl ?_
  intro p e s m args below meth c s₁ B hml htab hv
  obtain ⟨rfl, hK, hXt, hZ, hA, hW⟩ := hv
  have hx := B.exec
  have hb := B.bytes
  have hr := B.returns
  have hts := atoms_spec (ws := WS_X11_account) B.pre
  have htg : ∀ w ∈ wsG, w.before _ s = true := fun w h => hts w (List.mem_cons_of_mem _ h)
  have hown : s.vm.findClass RX11 = some m.cls := findClass_of_methodNamed B.named
  have hlocks := B.notSynchronized
  have hS : va_S (gF G) s.heap s.heap [] := va_S.rf
  have hl := lv_entry ([.ref (gA G 14 0 0), .int p0]) (n := 2) (Nat.le_of_ble_eq_true rfl)
  rw [lg_entry_eq]
  generalize (lg_sl ([.ref (gA G 14 0 0), .int p0]) ++ List.replicate (2 - (lg_sl ([.ref (gA G 14 0 0), .int p0])).length) Slot.unset).toArray = ls at hl ⊢
  have hl : lv_has ls 2 [(0, .ref (gA G 14 0 0)), (1, .int p0)] := hl
  have hX := h
  unfold m_X11_account at hX
  refine lv_iload_n hx hb dX11_account_0 rfl (lv_at hl 1 rfl) ?_
  refine lv_bipush (v := (9 : Int32)) hx hb dX11_account_1 (by decide) ?_
  rcases bx_go hX with ⟨v4, x3, h1, hX⟩ | ⟨c5, v4, x3, c5h, h1, hX⟩
  rotate_left
  · subst hX; exact kx_X11_need hx hb hml hown htg hst hXt hZ hA hK hW hS h1 q396 hl.1 (Nat.le_of_ble_eq_true rfl) (Nat.le_of_ble_eq_true rfl) (Nat.le_of_ble_eq_true rfl) ⟨Nat.le_of_ble_eq_true rfl, Nat.le_of_ble_eq_true rfl⟩ dX11_account_3 (fun hc ce q9 H1 locs1 hW hS e1 e2 e3 => x_out c5h htab hlocks e1 e2 e3 hW hS (Nat.le_of_ble_eq_true rfl) (Nat.le_of_ble_eq_true rfl)) (fun h0 => absurd h0 c5h)
  refine kx_X11_need hx hb hml hown htg hst hXt hZ hA hK hW hS h1 q396 hl.1 (Nat.le_of_ble_eq_true rfl) (Nat.le_of_ble_eq_true rfl) (Nat.le_of_ble_eq_true rfl) ⟨Nat.le_of_ble_eq_true rfl, Nat.le_of_ble_eq_true rfl⟩ dX11_account_3 (fun hc => absurd rfl hc) (fun _ H locs hW hS => ?_)
  refine lv_aload_n hx hb dX11_account_6 rfl (lv_at hl 0 rfl) ?_
  refine gf_14_0 hx hb htg hown hK hW q17 dX11_account_7 ?_
  refine lv_iload_n hx hb dX11_account_10 rfl (lv_at hl 1 rfl) ?_
  obtain ⟨r7, h6, hX⟩ := bd_go hX
  refine k_X1_accountOf hx hb hml hown htg hK hW hS h6 q1011 hl.1 (Nat.le_of_ble_eq_true rfl) (Nat.le_of_ble_eq_true rfl) (Nat.le_of_ble_eq_true rfl) ⟨Nat.le_of_ble_eq_true rfl, Nat.le_of_ble_eq_true rfl⟩ dX11_account_11 (fun H locs hW hS => ?_)
  have hX := Option.some.inj hX
  subst hX
  exact vx_ret (W.widen (k := 3) (n := 18) (Nat.le_of_ble_eq_true rfl) (Nat.le_of_ble_eq_true rfl) (rtx_i hx hb hr hlocks hW hS dX11_account_14))
set_option maxHeartbeats 4000000 in
theorem kx_X11_account {p : Program} {l : Launch} {e : Env} {R : Room} {s : State} {m : MethodId} {args : Array Value} {below : List Frame} {meth : Method} {c : Code} {H : Heap} {locs : List Loc} {cells slots : Nat} {Q : State → Prop} {cc : ByteArray} {pc nL idx : Nat} {own : String} {ls : Array Slot} {rest : List Value} {G : Geo} {x y : Mem} {p0 : Int32} {cd : Nat} {v : Int32} {z : Mem} (hx : p.tables.exec = Jvm.exec) (hb : c.code = cc) (hml : c.maxLocals = nL) (hown : s.vm.findClass own = some m.cls) (htg : ∀ w ∈ wsG, w.before args s = true) (hst : l.stackTraces = false) (hXt : Xt s) (hZ : Zt G s s.heap) (hA : ∀ q, s.heap.size ≤ q → gF G q) (hK : Kt G s) (hW : Wh G x y H) (hS : va_S (gF G) s.heap H locs) (h : m_X11_account p0 x = some (cd, v, z)) (hlk : Cond.methodLink own idx yX11_account ∈ wsG) (hn : ls.size = nL) (hr : (rest.map fun v => v.category).sum ≤ 8) (hR1 : 7 + 1 ≤ R.frames) (hR2 : 8 + (2 + 11) + 111 ≤ R.locals) (hf : cells + 3 ≤ R.cells ∧ slots + 18 ≤ R.slots) (hdg : decode cc pc = .ok (.invokevirtual idx, 3)) (kx : ¬ cd = 0 → ∀ (ce : Cell) (q9 : Addr) (H1 : Heap) (locs1 : List Loc), Wh G z y H1 → va_S (gF G) s.heap H1 locs1 → H1[q9]? = some ce → ce.vm = .none → s.vm.findClass (exN cd) = some ce.cls → vx_W p l e R s m args below meth c H1 locs1 (cells + 3) (slots + 18) Q (F0 m pc ls rest) q9) (kk : cd = 0 → ∀ (H1 : Heap) (locs1 : List Loc), Wh G z y H1 → va_S (gF G) s.heap H1 locs1 → W p l e R s m args below meth c H1 locs1 (cells + 3) (slots + 18) Q (F0 m (pc + 3) ls (.int v :: rest))) : W p l e R s m args below meth c H locs cells slots Q (F0 m pc ls (.int p0 :: .ref (gA G 14 0 0) :: rest)) := by
  refine vx_calli (vx_runV (As := [.int p0]) (rest := rest) ⟨hx, hb, hml, hown, htg⟩ (c_X11_account l hst G x y p0 (cd, v, z) h) (cwV 1 htg (gd_V hlk q1008 q1009 q2 q1010) rfl rfl rfl (by decide +kernel) ⟨hR1, hR2⟩) ⟨fun a U g mk q => ⟨q.1, q.2.1.calling, q.2.2.1.calling, q.2.2.2.1.calling, q.2.2.2.2.1, q.2.2.2.2.2⟩, rc_14 hK hW, fun U hU hW9 => ⟨rfl, hK.warm hW9, hXt.warm hW9, by rw [hU]; exact (hZ.kept hS).moved hW9.alike, by rw [hU]; exact fun q hq => hA q (Nat.le_trans hS.1 hq), by rw [hU]; exact hW⟩⟩ rfl rfl hn rfl (lv_room hr) hdg hf) hS (fun _ _ h9 => h9) (fun _ h9 => h9) (fun _ _ h9 => h9) ?_ ?_
  · intro E ce q9 u t H1 locs1 ht hvm hp hB hz hk hS1 e1 e2 e3
    obtain ⟨hc, hE, hB⟩ := hB
    replace hB : Wh G z y t.heap := hB
    rw [ht] at hB
    replace hE : E = exN cd := hE
    subst hE
    exact kx hc ce q9 H1 locs1 hB hS1 e1 e2 e3
  · intro r9 u t H1 locs1 ht hvm hw hB hz1 hk1 hS1
    replace hB : Wh G z y t.heap := hB
    rw [ht] at hB
    obtain ⟨hw, hv⟩ := hw
    replace hv : r9 = v := hv
    subst hv
    exact kk hw H1 locs1 hB hS1
/-! METHOD X11_needArm -/
def m_X11_needArm (p0 : Int32) (x : Mem) : Option (Nat × Int32 × Mem) :=
  bd_ (m_X11_isWithin p0 (0 : Int32) (2 : Int32)) fun r2 => if r2 = 0 then (some (1, (0 : Int32), x)) else (some (0, (0 : Int32), x))
abbrev WS_X11_needArm : List Cond := .code yX11_needArm cX11_needArm 1 none :: wsG
abbrev RM_X11_needArm : Room := { frames := 6, cells := 1, slots := 6, locals := 90 }
set_option maxHeartbeats 4000000 in
set_option maxRecDepth 100000 in
theorem c_X11_needArm (l : Launch) (hst : l.stackTraces = false) (G : Geo) (x y : Mem) (p0 : Int32) (r : (Nat × Int32 × Mem)) (h : m_X11_needArm p0 x = some r) : vx_Met l yX11_needArm WS_X11_needArm RM_X11_needArm (Px G x y [.int p0]) (QXv G r y) (XQ G r y) 1 6 (gF G) := by
  refine vx_ofW (cc := cX11_needArm) (maxL := 1) (ret := none) (by decide) rfl ?_
  intro p e s m args below meth c s₁ B hml htab hv
  obtain ⟨rfl, hK, hXt, hZ, hA, hW⟩ := hv
  have hx := B.exec
  have hb := B.bytes
  have hr := B.returns
  have hts := atoms_spec (ws := WS_X11_needArm) B.pre
  have htg : ∀ w ∈ wsG, w.before _ s = true := fun w h => hts w (List.mem_cons_of_mem _ h)
  have hown : s.vm.findClass RX11 = some m.cls := findClass_of_methodNamed B.named
  have hlocks := B.notSynchronized
  have hS : va_S (gF G) s.heap s.heap [] := va_S.rf
  have hl := lv_entry ([.int p0]) (n := 1) (Nat.le_of_ble_eq_true rfl)
  rw [lg_entry_eq]
  generalize (lg_sl ([.int p0]) ++ List.replicate (1 - (lg_sl ([.int p0])).length) Slot.unset).toArray = ls at hl ⊢
  have hl : lv_has ls 1 [(0, .int p0)] := hl
  have hX := h
  unfold m_X11_needArm at hX
  refine lv_iload_n hx hb dX11_needArm_0 rfl (lv_at hl 0 rfl) ?_
  refine lv_iconst (v := (0 : Int32)) hx hb dX11_needArm_1 (by decide) ?_
  refine lv_iconst (v := (2 : Int32)) hx hb dX11_needArm_2 (by decide) ?_
  obtain ⟨r2, h1, hX⟩ := bd_go hX
  refine k_X11_isWithin hx hb hml hown htg hK hW hS h1 q395 hl.1 (Nat.le_of_ble_eq_true rfl) (Nat.le_of_ble_eq_true rfl) (Nat.le_of_ble_eq_true rfl) ⟨Nat.le_of_ble_eq_true rfl, Nat.le_of_ble_eq_true rfl⟩ dX11_needArm_3 (fun H locs hW hS => ?_)
  refine lv_if_ne (tgt := 20) hx hb dX11_needArm_6 (by decide) (fun c3 => ?_) (fun c3 => ?_)
  · have hX := it_f hX c3
    have hX := Option.some.inj hX
    subst hX
    exact vx_ret (W.widen (k := 1) (n := 6) (Nat.le_of_ble_eq_true rfl) (Nat.le_of_ble_eq_true rfl) (rtx_v hx hb hr hlocks hW hS dX11_needArm_20))
  · have hX := it_t hX c3
    have hX := Option.some.inj hX
    subst hX
    exact thW_1 hx hb hst htg hown hXt hZ hW hS (hl.1.trans hml.symm) (List.mem_of_getElem? (i := 21) rfl) dX11_needArm_9 dX11_needArm_12 dX11_needArm_13 dX11_needArm_16 dX11_needArm_19 htab (Nat.le_of_ble_eq_true rfl) (Nat.le_of_ble_eq_true rfl) (Nat.le_of_ble_eq_true rfl) (Nat.le_of_ble_eq_true rfl) hlocks (Nat.le_of_ble_eq_true rfl) (Nat.le_of_ble_eq_true rfl)
set_option maxHeartbeats 4000000 in
theorem kx_X11_needArm {p : Program} {l : Launch} {e : Env} {R : Room} {s : State} {m : MethodId} {args : Array Value} {below : List Frame} {meth : Method} {c : Code} {H : Heap} {locs : List Loc} {cells slots : Nat} {Q : State → Prop} {cc : ByteArray} {pc nL idx : Nat} {own : String} {ls : Array Slot} {rest : List Value} {G : Geo} {x y : Mem} {p0 : Int32} {cd : Nat} {v : Int32} {z : Mem} (hx : p.tables.exec = Jvm.exec) (hb : c.code = cc) (hml : c.maxLocals = nL) (hown : s.vm.findClass own = some m.cls) (htg : ∀ w ∈ wsG, w.before args s = true) (hst : l.stackTraces = false) (hXt : Xt s) (hZ : Zt G s s.heap) (hA : ∀ q, s.heap.size ≤ q → gF G q) (hK : Kt G s) (hW : Wh G x y H) (hS : va_S (gF G) s.heap H locs) (h : m_X11_needArm p0 x = some (cd, v, z)) (hlk : Cond.methodLink own idx yX11_needArm ∈ wsG) (hn : ls.size = nL) (hr : (rest.map fun v => v.category).sum ≤ 8) (hR1 : 6 + 1 ≤ R.frames) (hR2 : 8 + (1 + 11) + 90 ≤ R.locals) (hf : cells + 1 ≤ R.cells ∧ slots + 6 ≤ R.slots) (hdg : decode cc pc = .ok (.invokestatic idx, 3)) (kx : ¬ cd = 0 → ∀ (ce : Cell) (q9 : Addr) (H1 : Heap) (locs1 : List Loc), Wh G z y H1 → va_S (gF G) s.heap H1 locs1 → H1[q9]? = some ce → ce.vm = .none → s.vm.findClass (exN cd) = some ce.cls → vx_W p l e R s m args below meth c H1 locs1 (cells + 1) (slots + 6) Q (F0 m pc ls rest) q9) (kk : cd = 0 → ∀ (H1 : Heap) (locs1 : List Loc), Wh G z y H1 → va_S (gF G) s.heap H1 locs1 → W p l e R s m args below meth c H1 locs1 (cells + 1) (slots + 6) Q (F0 m (pc + 3) ls (rest))) : W p l e R s m args below meth c H locs cells slots Q (F0 m pc ls (.int p0 :: rest)) := by
  refine vx_callv (vx_runS (As := [.int p0]) (rest := rest) ⟨hx, hb, hml, hown, htg⟩ (c_X11_needArm l hst G x y p0 (cd, v, z) h) (va_cwS 1 htg (gd_S hlk q393 q2 q394) rfl rfl rfl (by decide +kernel) ⟨hR1, hR2⟩) ⟨fun a U g mk q => ⟨q.1, q.2.1.calling, q.2.2.1.calling, q.2.2.2.1.calling, q.2.2.2.2.1, q.2.2.2.2.2⟩, fun U hU hW9 => ⟨rfl, hK.warm hW9, hXt.warm hW9, by rw [hU]; exact (hZ.kept hS).moved hW9.alike, by rw [hU]; exact fun q hq => hA q (Nat.le_trans hS.1 hq), by rw [hU]; exact hW⟩⟩ rfl rfl hn rfl (lv_room hr) hdg hf) hS (fun _ _ h9 => h9) (fun _ h9 => h9) (fun _ _ h9 => h9) ?_ ?_
  · intro E ce q9 u t H1 locs1 ht hvm hp hB hz hk hS1 e1 e2 e3
    obtain ⟨hc, hE, hB⟩ := hB
    replace hB : Wh G z y t.heap := hB
    rw [ht] at hB
    replace hE : E = exN cd := hE
    subst hE
    exact kx hc ce q9 H1 locs1 hB hS1 e1 e2 e3
  · intro u t H1 locs1 ht hvm hw hB hz1 hk1 hS1
    replace hB : Wh G z y t.heap := hB
    rw [ht] at hB
    exact kk hw H1 locs1 hB hS1
/-! METHOD X11_arm -/
def m_X11_arm (p0 : Int32) (p1 : Int32) (x : Mem) : Option (Nat × Int32 × Mem) :=
  bx_ (m_X11_needArm p0 x) fun v4 x3 => bx_ (m_X11_need p1 (9 : Int32) x3) fun v9 x8 => bd_ (m_X1_armAt (0 : Fin 10) p0) fun r12 => bd_ (m_X1_aboutArm (0 : Fin 10) r12 p1 x8) fun r14 => some (0, r14, x8)
abbrev WS_X11_arm : List Cond := .code yX11_arm cX11_arm 3 (some .int) :: wsG
abbrev RM_X11_arm : Room := { frames := 7, cells := 3, slots := 18, locals := 111 }
set_option maxHeartbeats 4000000 in
set_option maxRecDepth 100000 in
theorem c_X11_arm (l : Launch) (hst : l.stackTraces = false) (G : Geo) (x y : Mem) (p0 : Int32) (p1 : Int32) (r : (Nat × Int32 × Mem)) (h : m_X11_arm p0 p1 x = some r) : vx_Met l yX11_arm WS_X11_arm RM_X11_arm (Px G x y [.ref (gA G 14 0 0), .int p0, .int p1]) (QXi G r y) (XQ G r y) 3 18 (gF G) := by
  refine vx_ofW (cc := cX11_arm) (maxL := 3) (ret := (some .int)) (by decide) rfl ?_
  intro p e s m args below meth c s₁ B hml htab hv
  obtain ⟨rfl, hK, hXt, hZ, hA, hW⟩ := hv
  have hx := B.exec
  have hb := B.bytes
  have hr := B.returns
  have hts := atoms_spec (ws := WS_X11_arm) B.pre
  have htg : ∀ w ∈ wsG, w.before _ s = true := fun w h => hts w (List.mem_cons_of_mem _ h)
  have hown : s.vm.findClass RX11 = some m.cls := findClass_of_methodNamed B.named
  have hlocks := B.notSynchronized
  have hS : va_S (gF G) s.heap s.heap [] := va_S.rf
  have hl := lv_entry ([.ref (gA G 14 0 0), .int p0, .int p1]) (n := 3) (Nat.le_of_ble_eq_true rfl)
  rw [lg_entry_eq]
  generalize (lg_sl ([.ref (gA G 14 0 0), .int p0, .int p1]) ++ List.replicate (3 - (lg_sl ([.ref (gA G 14 0 0), .int p0, .int p1])).length) Slot.unset).toArray = ls at hl ⊢
  have hl : lv_has ls 3 [(0, .ref (gA G 14 0 0)), (1, .int p0), (2, .int p1)] := hl
  have hX := h
  unfold m_X11_arm at hX
  refine lv_iload_n hx hb dX11_arm_0 rfl (lv_at hl 1 rfl) ?_
  rcases bx_go hX with ⟨v4, x3, h1, hX⟩ | ⟨c5, v4, x3, c5h, h1, hX⟩
  rotate_left
  · subst hX; exact kx_X11_needArm hx hb hml hown htg hst hXt hZ hA hK hW hS h1 q392 hl.1 (Nat.le_of_ble_eq_true rfl) (Nat.le_of_ble_eq_true rfl) (Nat.le_of_ble_eq_true rfl) ⟨Nat.le_of_ble_eq_true rfl, Nat.le_of_ble_eq_true rfl⟩ dX11_arm_1 (fun hc ce q9 H1 locs1 hW hS e1 e2 e3 => x_out c5h htab hlocks e1 e2 e3 hW hS (Nat.le_of_ble_eq_true rfl) (Nat.le_of_ble_eq_true rfl)) (fun h0 => absurd h0 c5h)
  refine kx_X11_needArm hx hb hml hown htg hst hXt hZ hA hK hW hS h1 q392 hl.1 (Nat.le_of_ble_eq_true rfl) (Nat.le_of_ble_eq_true rfl) (Nat.le_of_ble_eq_true rfl) ⟨Nat.le_of_ble_eq_true rfl, Nat.le_of_ble_eq_true rfl⟩ dX11_arm_1 (fun hc => absurd rfl hc) (fun _ H locs hW hS => ?_)
  refine lv_iload_n hx hb dX11_arm_4 rfl (lv_at hl 2 rfl) ?_
  refine lv_bipush (v := (9 : Int32)) hx hb dX11_arm_5 (by decide) ?_
  rcases bx_go hX with ⟨v9, x8, h6, hX⟩ | ⟨c10, v9, x8, c10h, h6, hX⟩
  rotate_left
  · subst hX; exact kx_X11_need hx hb hml hown htg hst hXt hZ hA hK hW hS h6 q396 hl.1 (Nat.le_of_ble_eq_true rfl) (Nat.le_of_ble_eq_true rfl) (Nat.le_of_ble_eq_true rfl) ⟨Nat.le_of_ble_eq_true rfl, Nat.le_of_ble_eq_true rfl⟩ dX11_arm_7 (fun hc ce q9 H1 locs1 hW hS e1 e2 e3 => x_out c10h htab hlocks e1 e2 e3 hW hS (Nat.le_of_ble_eq_true rfl) (Nat.le_of_ble_eq_true rfl)) (fun h0 => absurd h0 c10h)
  refine kx_X11_need hx hb hml hown htg hst hXt hZ hA hK hW hS h6 q396 hl.1 (Nat.le_of_ble_eq_true rfl) (Nat.le_of_ble_eq_true rfl) (Nat.le_of_ble_eq_true rfl) ⟨Nat.le_of_ble_eq_true rfl, Nat.le_of_ble_eq_true rfl⟩ dX11_arm_7 (fun hc => absurd rfl hc) (fun _ H locs hW hS => ?_)
  refine lv_aload_n hx hb dX11_arm_10 rfl (lv_at hl 0 rfl) ?_
  refine gf_14_0 hx hb htg hown hK hW q17 dX11_arm_11 ?_
  refine lv_aload_n hx hb dX11_arm_14 rfl (lv_at hl 0 rfl) ?_
  refine gf_14_0 hx hb htg hown hK hW q17 dX11_arm_15 ?_
  refine lv_iload_n hx hb dX11_arm_18 rfl (lv_at hl 1 rfl) ?_
  obtain ⟨r12, h11, hX⟩ := bd_go hX
  refine k_X1_armAt hx hb hml hown htg hK hW hS h11 q399 hl.1 (Nat.le_of_ble_eq_true rfl) (Nat.le_of_ble_eq_true rfl) (Nat.le_of_ble_eq_true rfl) ⟨Nat.le_of_ble_eq_true rfl, Nat.le_of_ble_eq_true rfl⟩ dX11_arm_19 (fun H locs hW hS => ?_)
  refine lv_iload_n hx hb dX11_arm_22 rfl (lv_at hl 2 rfl) ?_
  obtain ⟨r14, h13, hX⟩ := bd_go hX
  refine k_X1_aboutArm hx hb hml hown htg hK hW hS h13 q639 hl.1 (Nat.le_of_ble_eq_true rfl) (Nat.le_of_ble_eq_true rfl) (Nat.le_of_ble_eq_true rfl) ⟨Nat.le_of_ble_eq_true rfl, Nat.le_of_ble_eq_true rfl⟩ dX11_arm_23 (fun H locs hW hS => ?_)
  have hX := Option.some.inj hX
  subst hX
  exact vx_ret (W.widen (k := 3) (n := 18) (Nat.le_of_ble_eq_true rfl) (Nat.le_of_ble_eq_true rfl) (rtx_i hx hb hr hlocks hW hS dX11_arm_26))
set_option maxHeartbeats 4000000 in
theorem kx_X11_arm {p : Program} {l : Launch} {e : Env} {R : Room} {s : State} {m : MethodId} {args : Array Value} {below : List Frame} {meth : Method} {c : Code} {H : Heap} {locs : List Loc} {cells slots : Nat} {Q : State → Prop} {cc : ByteArray} {pc nL idx : Nat} {own : String} {ls : Array Slot} {rest : List Value} {G : Geo} {x y : Mem} {p0 : Int32} {p1 : Int32} {cd : Nat} {v : Int32} {z : Mem} (hx : p.tables.exec = Jvm.exec) (hb : c.code = cc) (hml : c.maxLocals = nL) (hown : s.vm.findClass own = some m.cls) (htg : ∀ w ∈ wsG, w.before args s = true) (hst : l.stackTraces = false) (hXt : Xt s) (hZ : Zt G s s.heap) (hA : ∀ q, s.heap.size ≤ q → gF G q) (hK : Kt G s) (hW : Wh G x y H) (hS : va_S (gF G) s.heap H locs) (h : m_X11_arm p0 p1 x = some (cd, v, z)) (hlk : Cond.methodLink own idx yX11_arm ∈ wsG) (hn : ls.size = nL) (hr : (rest.map fun v => v.category).sum ≤ 8) (hR1 : 7 + 1 ≤ R.frames) (hR2 : 8 + (3 + 11) + 111 ≤ R.locals) (hf : cells + 3 ≤ R.cells ∧ slots + 18 ≤ R.slots) (hdg : decode cc pc = .ok (.invokevirtual idx, 3)) (kx : ¬ cd = 0 → ∀ (ce : Cell) (q9 : Addr) (H1 : Heap) (locs1 : List Loc), Wh G z y H1 → va_S (gF G) s.heap H1 locs1 → H1[q9]? = some ce → ce.vm = .none → s.vm.findClass (exN cd) = some ce.cls → vx_W p l e R s m args below meth c H1 locs1 (cells + 3) (slots + 18) Q (F0 m pc ls rest) q9) (kk : cd = 0 → ∀ (H1 : Heap) (locs1 : List Loc), Wh G z y H1 → va_S (gF G) s.heap H1 locs1 → W p l e R s m args below meth c H1 locs1 (cells + 3) (slots + 18) Q (F0 m (pc + 3) ls (.int v :: rest))) : W p l e R s m args below meth c H locs cells slots Q (F0 m pc ls (.int p1 :: .int p0 :: .ref (gA G 14 0 0) :: rest)) := by
  refine vx_calli (vx_runV (As := [.int p0, .int p1]) (rest := rest) ⟨hx, hb, hml, hown, htg⟩ (c_X11_arm l hst G x y p0 p1 (cd, v, z) h) (cwV 2 htg (gd_V hlk q636 q637 q2 q638) rfl rfl rfl (by decide +kernel) ⟨hR1, hR2⟩) ⟨fun a U g mk q => ⟨q.1, q.2.1.calling, q.2.2.1.calling, q.2.2.2.1.calling, q.2.2.2.2.1, q.2.2.2.2.2⟩, rc_14 hK hW, fun U hU hW9 => ⟨rfl, hK.warm hW9, hXt.warm hW9, by rw [hU]; exact (hZ.kept hS).moved hW9.alike, by rw [hU]; exact fun q hq => hA q (Nat.le_trans hS.1 hq), by rw [hU]; exact hW⟩⟩ rfl rfl hn rfl (lv_room hr) hdg hf) hS (fun _ _ h9 => h9) (fun _ h9 => h9) (fun _ _ h9 => h9) ?_ ?_
  · intro E ce q9 u t H1 locs1 ht hvm hp hB hz hk hS1 e1 e2 e3
    obtain ⟨hc, hE, hB⟩ := hB
    replace hB : Wh G z y t.heap := hB
    rw [ht] at hB
    replace hE : E = exN cd := hE
    subst hE
    exact kx hc ce q9 H1 locs1 hB hS1 e1 e2 e3
  · intro r9 u t H1 locs1 ht hvm hw hB hz1 hk1 hS1
    replace hB : Wh G z y t.heap := hB
    rw [ht] at hB
    obtain ⟨hw, hv⟩ := hw
    replace hv : r9 = v := hv
    subst hv
    exact kk hw H1 locs1 hB hS1
/-! METHOD X11_needBuffer -/
def m_X11_needBuffer (p0 : Int32) (x : Mem) : Option (Nat × Int32 × Mem) :=
  bd_ (m_X11_isWithin p0 (0 : Int32) (2 : Int32)) fun r2 => if r2 = 0 then (some (1, (0 : Int32), x)) else (some (0, (0 : Int32), x))
abbrev WS_X11_needBuffer : List Cond := .code yX11_needBuffer cX11_needBuffer 1 none :: wsG
abbrev RM_X11_needBuffer : Room := { frames := 6, cells := 1, slots := 6, locals := 90 }
set_option maxHeartbeats 4000000 in
set_option maxRecDepth 100000 in
theorem c_X11_needBuffer (l : Launch) (hst : l.stackTraces = false) (G : Geo) (x y : Mem) (p0 : Int32) (r : (Nat × Int32 × Mem)) (h : m_X11_needBuffer p0 x = some r) : vx_Met l yX11_needBuffer WS_X11_needBuffer RM_X11_needBuffer (Px G x y [.int p0]) (QXv G r y) (XQ G r y) 1 6 (gF G) := by
  refine vx_ofW (cc := cX11_needBuffer) (maxL := 1) (ret := none) (by decide) rfl ?_
  intro p e s m args below meth c s₁ B hml htab hv
  obtain ⟨rfl, hK, hXt, hZ, hA, hW⟩ := hv
  have hx := B.exec
  have hb := B.bytes
  have hr := B.returns
  have hts := atoms_spec (ws := WS_X11_needBuffer) B.pre
  have htg : ∀ w ∈ wsG, w.before _ s = true := fun w h => hts w (List.mem_cons_of_mem _ h)
  have hown : s.vm.findClass RX11 = some m.cls := findClass_of_methodNamed B.named
  have hlocks := B.notSynchronized
  have hS : va_S (gF G) s.heap s.heap [] := va_S.rf
  have hl := lv_entry ([.int p0]) (n := 1) (Nat.le_of_ble_eq_true rfl)
  rw [lg_entry_eq]
  generalize (lg_sl ([.int p0]) ++ List.replicate (1 - (lg_sl ([.int p0])).length) Slot.unset).toArray = ls at hl ⊢
  have hl : lv_has ls 1 [(0, .int p0)] := hl
  have hX := h
  unfold m_X11_needBuffer at hX
  refine lv_iload_n hx hb dX11_needBuffer_0 rfl (lv_at hl 0 rfl) ?_
  refine lv_iconst (v := (0 : Int32)) hx hb dX11_needBuffer_1 (by decide) ?_
  refine lv_iconst (v := (2 : Int32)) hx hb dX11_needBuffer_2 (by decide) ?_
  obtain ⟨r2, h1, hX⟩ := bd_go hX
  refine k_X11_isWithin hx hb hml hown htg hK hW hS h1 q395 hl.1 (Nat.le_of_ble_eq_true rfl) (Nat.le_of_ble_eq_true rfl) (Nat.le_of_ble_eq_true rfl) ⟨Nat.le_of_ble_eq_true rfl, Nat.le_of_ble_eq_true rfl⟩ dX11_needBuffer_3 (fun H locs hW hS => ?_)
  refine lv_if_ne (tgt := 20) hx hb dX11_needBuffer_6 (by decide) (fun c3 => ?_) (fun c3 => ?_)
  · have hX := it_f hX c3
    have hX := Option.some.inj hX
    subst hX
    exact vx_ret (W.widen (k := 1) (n := 6) (Nat.le_of_ble_eq_true rfl) (Nat.le_of_ble_eq_true rfl) (rtx_v hx hb hr hlocks hW hS dX11_needBuffer_20))
  · have hX := it_t hX c3
    have hX := Option.some.inj hX
    subst hX
    exact thW_1 hx hb hst htg hown hXt hZ hW hS (hl.1.trans hml.symm) (List.mem_of_getElem? (i := 22) rfl) dX11_needBuffer_9 dX11_needBuffer_12 dX11_needBuffer_13 dX11_needBuffer_16 dX11_needBuffer_19 htab (Nat.le_of_ble_eq_true rfl) (Nat.le_of_ble_eq_true rfl) (Nat.le_of_ble_eq_true rfl) (Nat.le_of_ble_eq_true rfl) hlocks (Nat.le_of_ble_eq_true rfl) (Nat.le_of_ble_eq_true rfl)
set_option maxHeartbeats 4000000 in
theorem kx_X11_needBuffer {p : Program} {l : Launch} {e : Env} {R : Room} {s : State} {m : MethodId} {args : Array Value} {below : List Frame} {meth : Method} {c : Code} {H : Heap} {locs : List Loc} {cells slots : Nat} {Q : State → Prop} {cc : ByteArray} {pc nL idx : Nat} {own : String} {ls : Array Slot} {rest : List Value} {G : Geo} {x y : Mem} {p0 : Int32} {cd : Nat} {v : Int32} {z : Mem} (hx : p.tables.exec = Jvm.exec) (hb : c.code = cc) (hml : c.maxLocals = nL) (hown : s.vm.findClass own = some m.cls) (htg : ∀ w ∈ wsG, w.before args s = true) (hst : l.stackTraces = false) (hXt : Xt s) (hZ : Zt G s s.heap) (hA : ∀ q, s.heap.size ≤ q → gF G q) (hK : Kt G s) (hW : Wh G x y H) (hS : va_S (gF G) s.heap H locs) (h : m_X11_needBuffer p0 x = some (cd, v, z)) (hlk : Cond.methodLink own idx yX11_needBuffer ∈ wsG) (hn : ls.size = nL) (hr : (rest.map fun v => v.category).sum ≤ 8) (hR1 : 6 + 1 ≤ R.frames) (hR2 : 8 + (1 + 11) + 90 ≤ R.locals) (hf : cells + 1 ≤ R.cells ∧ slots + 6 ≤ R.slots) (hdg : decode cc pc = .ok (.invokestatic idx, 3)) (kx : ¬ cd = 0 → ∀ (ce : Cell) (q9 : Addr) (H1 : Heap) (locs1 : List Loc), Wh G z y H1 → va_S (gF G) s.heap H1 locs1 → H1[q9]? = some ce → ce.vm = .none → s.vm.findClass (exN cd) = some ce.cls → vx_W p l e R s m args below meth c H1 locs1 (cells + 1) (slots + 6) Q (F0 m pc ls rest) q9) (kk : cd = 0 → ∀ (H1 : Heap) (locs1 : List Loc), Wh G z y H1 → va_S (gF G) s.heap H1 locs1 → W p l e R s m args below meth c H1 locs1 (cells + 1) (slots + 6) Q (F0 m (pc + 3) ls (rest))) : W p l e R s m args below meth c H locs cells slots Q (F0 m pc ls (.int p0 :: rest)) := by
  refine vx_callv (vx_runS (As := [.int p0]) (rest := rest) ⟨hx, hb, hml, hown, htg⟩ (c_X11_needBuffer l hst G x y p0 (cd, v, z) h) (va_cwS 1 htg (gd_S hlk q420 q2 q421) rfl rfl rfl (by decide +kernel) ⟨hR1, hR2⟩) ⟨fun a U g mk q => ⟨q.1, q.2.1.calling, q.2.2.1.calling, q.2.2.2.1.calling, q.2.2.2.2.1, q.2.2.2.2.2⟩, fun U hU hW9 => ⟨rfl, hK.warm hW9, hXt.warm hW9, by rw [hU]; exact (hZ.kept hS).moved hW9.alike, by rw [hU]; exact fun q hq => hA q (Nat.le_trans hS.1 hq), by rw [hU]; exact hW⟩⟩ rfl rfl hn rfl (lv_room hr) hdg hf) hS (fun _ _ h9 => h9) (fun _ h9 => h9) (fun _ _ h9 => h9) ?_ ?_
  · intro E ce q9 u t H1 locs1 ht hvm hp hB hz hk hS1 e1 e2 e3
    obtain ⟨hc, hE, hB⟩ := hB
    replace hB : Wh G z y t.heap := hB
    rw [ht] at hB
    replace hE : E = exN cd := hE
    subst hE
    exact kx hc ce q9 H1 locs1 hB hS1 e1 e2 e3
  · intro u t H1 locs1 ht hvm hw hB hz1 hk1 hS1
    replace hB : Wh G z y t.heap := hB
    rw [ht] at hB
    exact kk hw H1 locs1 hB hS1
/-! METHOD X11_buffer -/
def m_X11_buffer (p0 : Int32) (p1 : Int32) (x : Mem) : Option (Nat × Int32 × Mem) :=
  bx_ (m_X11_needBuffer p0 x) fun v4 x3 => bx_ (m_X11_need p1 (5 : Int32) x3) fun v9 x8 => bd_ (m_X1_storeAt (0 : Fin 10) p0) fun r12 => bd_ (m_X9_about r12 p1 x8) fun r14 => some (0, r14, x8)
abbrev WS_X11_buffer : List Cond := .code yX11_buffer cX11_buffer 3 (some .int) :: wsG
abbrev RM_X11_buffer : Room := { frames := 7, cells := 3, slots := 18, locals := 111 }
set_option maxHeartbeats 4000000 in
set_option maxRecDepth 100000 in
theorem c_X11_buffer (l : Launch) (hst : l.stackTraces = false) (G : Geo) (x y : Mem) (p0 : Int32) (p1 : Int32) (r : (Nat × Int32 × Mem)) (h : m_X11_buffer p0 p1 x = some r) : vx_Met l yX11_buffer WS_X11_buffer RM_X11_buffer (Px G x y [.ref (gA G 14 0 0), .int p0, .int p1]) (QXi G r y) (XQ G r y) 3 18 (gF G) := by
  refine vx_ofW (cc := cX11_buffer) (maxL := 3) (ret := (some .int)) (by decide) rfl ?_
  intro p e s m args below meth c s₁ B hml htab hv
  obtain ⟨rfl, hK, hXt, hZ, hA, hW⟩ := hv
  have hx := B.exec
  have hb := B.bytes
  have hr := B.returns
  have hts := atoms_spec (ws := WS_X11_buffer) B.pre
  have htg : ∀ w ∈ wsG, w.before _ s = true := fun w h => hts w (List.mem_cons_of_mem _ h)
  have hown : s.vm.findClass RX11 = some m.cls := findClass_of_methodNamed B.named
  have hlocks := B.notSynchronized
  have hS : va_S (gF G) s.heap s.heap [] := va_S.rf
  have hl := lv_entry ([.ref (gA G 14 0 0), .int p0, .int p1]) (n := 3) (Nat.le_of_ble_eq_true rfl)
  rw [lg_entry_eq]
  generalize (lg_sl ([.ref (gA G 14 0 0), .int p0, .int p1]) ++ List.replicate (3 - (lg_sl ([.ref (gA G 14 0 0), .int p0, .int p1])).length) Slot.unset).toArray = ls at hl ⊢
  have hl : lv_has ls 3 [(0, .ref (gA G 14 0 0)), (1, .int p0), (2, .int p1)] := hl
  have hX := h
  unfold m_X11_buffer at hX
  refine lv_iload_n hx hb dX11_buffer_0 rfl (lv_at hl 1 rfl) ?_
  rcases bx_go hX with ⟨v4, x3, h1, hX⟩ | ⟨c5, v4, x3, c5h, h1, hX⟩
  rotate_left
  · subst hX; exact kx_X11_needBuffer hx hb hml hown htg hst hXt hZ hA hK hW hS h1 q419 hl.1 (Nat.le_of_ble_eq_true rfl) (Nat.le_of_ble_eq_true rfl) (Nat.le_of_ble_eq_true rfl) ⟨Nat.le_of_ble_eq_true rfl, Nat.le_of_ble_eq_true rfl⟩ dX11_buffer_1 (fun hc ce q9 H1 locs1 hW hS e1 e2 e3 => x_out c5h htab hlocks e1 e2 e3 hW hS (Nat.le_of_ble_eq_true rfl) (Nat.le_of_ble_eq_true rfl)) (fun h0 => absurd h0 c5h)
  refine kx_X11_needBuffer hx hb hml hown htg hst hXt hZ hA hK hW hS h1 q419 hl.1 (Nat.le_of_ble_eq_true rfl) (Nat.le_of_ble_eq_true rfl) (Nat.le_of_ble_eq_true rfl) ⟨Nat.le_of_ble_eq_true rfl, Nat.le_of_ble_eq_true rfl⟩ dX11_buffer_1 (fun hc => absurd rfl hc) (fun _ H locs hW hS => ?_)
  refine lv_iload_n hx hb dX11_buffer_4 rfl (lv_at hl 2 rfl) ?_
  refine lv_iconst (v := (5 : Int32)) hx hb dX11_buffer_5 (by decide) ?_
  rcases bx_go hX with ⟨v9, x8, h6, hX⟩ | ⟨c10, v9, x8, c10h, h6, hX⟩
  rotate_left
  · subst hX; exact kx_X11_need hx hb hml hown htg hst hXt hZ hA hK hW hS h6 q396 hl.1 (Nat.le_of_ble_eq_true rfl) (Nat.le_of_ble_eq_true rfl) (Nat.le_of_ble_eq_true rfl) ⟨Nat.le_of_ble_eq_true rfl, Nat.le_of_ble_eq_true rfl⟩ dX11_buffer_6 (fun hc ce q9 H1 locs1 hW hS e1 e2 e3 => x_out c10h htab hlocks e1 e2 e3 hW hS (Nat.le_of_ble_eq_true rfl) (Nat.le_of_ble_eq_true rfl)) (fun h0 => absurd h0 c10h)
  refine kx_X11_need hx hb hml hown htg hst hXt hZ hA hK hW hS h6 q396 hl.1 (Nat.le_of_ble_eq_true rfl) (Nat.le_of_ble_eq_true rfl) (Nat.le_of_ble_eq_true rfl) ⟨Nat.le_of_ble_eq_true rfl, Nat.le_of_ble_eq_true rfl⟩ dX11_buffer_6 (fun hc => absurd rfl hc) (fun _ H locs hW hS => ?_)
  refine lv_aload_n hx hb dX11_buffer_9 rfl (lv_at hl 0 rfl) ?_
  refine gf_14_0 hx hb htg hown hK hW q17 dX11_buffer_10 ?_
  refine lv_iload_n hx hb dX11_buffer_13 rfl (lv_at hl 1 rfl) ?_
  obtain ⟨r12, h11, hX⟩ := bd_go hX
  refine k_X1_storeAt hx hb hml hown htg hK hW hS h11 q422 hl.1 (Nat.le_of_ble_eq_true rfl) (Nat.le_of_ble_eq_true rfl) (Nat.le_of_ble_eq_true rfl) ⟨Nat.le_of_ble_eq_true rfl, Nat.le_of_ble_eq_true rfl⟩ dX11_buffer_14 (fun H locs hW hS => ?_)
  refine lv_iload_n hx hb dX11_buffer_17 rfl (lv_at hl 2 rfl) ?_
  obtain ⟨r14, h13, hX⟩ := bd_go hX
  refine k_X9_about hx hb hml hown htg hK hW hS h13 q501 hl.1 (Nat.le_of_ble_eq_true rfl) (Nat.le_of_ble_eq_true rfl) (Nat.le_of_ble_eq_true rfl) ⟨Nat.le_of_ble_eq_true rfl, Nat.le_of_ble_eq_true rfl⟩ dX11_buffer_18 (fun H locs hW hS => ?_)
  have hX := Option.some.inj hX
  subst hX
  exact vx_ret (W.widen (k := 3) (n := 18) (Nat.le_of_ble_eq_true rfl) (Nat.le_of_ble_eq_true rfl) (rtx_i hx hb hr hlocks hW hS dX11_buffer_21))
set_option maxHeartbeats 4000000 in
theorem kx_X11_buffer {p : Program} {l : Launch} {e : Env} {R : Room} {s : State} {m : MethodId} {args : Array Value} {below : List Frame} {meth : Method} {c : Code} {H : Heap} {locs : List Loc} {cells slots : Nat} {Q : State → Prop} {cc : ByteArray} {pc nL idx : Nat} {own : String} {ls : Array Slot} {rest : List Value} {G : Geo} {x y : Mem} {p0 : Int32} {p1 : Int32} {cd : Nat} {v : Int32} {z : Mem} (hx : p.tables.exec = Jvm.exec) (hb : c.code = cc) (hml : c.maxLocals = nL) (hown : s.vm.findClass own = some m.cls) (htg : ∀ w ∈ wsG, w.before args s = true) (hst : l.stackTraces = false) (hXt : Xt s) (hZ : Zt G s s.heap) (hA : ∀ q, s.heap.size ≤ q → gF G q) (hK : Kt G s) (hW : Wh G x y H) (hS : va_S (gF G) s.heap H locs) (h : m_X11_buffer p0 p1 x = some (cd, v, z)) (hlk : Cond.methodLink own idx yX11_buffer ∈ wsG) (hn : ls.size = nL) (hr : (rest.map fun v => v.category).sum ≤ 8) (hR1 : 7 + 1 ≤ R.frames) (hR2 : 8 + (3 + 11) + 111 ≤ R.locals) (hf : cells + 3 ≤ R.cells ∧ slots + 18 ≤ R.slots) (hdg : decode cc pc = .ok (.invokevirtual idx, 3)) (kx : ¬ cd = 0 → ∀ (ce : Cell) (q9 : Addr) (H1 : Heap) (locs1 : List Loc), Wh G z y H1 → va_S (gF G) s.heap H1 locs1 → H1[q9]? = some ce → ce.vm = .none → s.vm.findClass (exN cd) = some ce.cls → vx_W p l e R s m args below meth c H1 locs1 (cells + 3) (slots + 18) Q (F0 m pc ls rest) q9) (kk : cd = 0 → ∀ (H1 : Heap) (locs1 : List Loc), Wh G z y H1 → va_S (gF G) s.heap H1 locs1 → W p l e R s m args below meth c H1 locs1 (cells + 3) (slots + 18) Q (F0 m (pc + 3) ls (.int v :: rest))) : W p l e R s m args below meth c H locs cells slots Q (F0 m pc ls (.int p1 :: .int p0 :: .ref (gA G 14 0 0) :: rest)) := by
  refine vx_calli (vx_runV (As := [.int p0, .int p1]) (rest := rest) ⟨hx, hb, hml, hown, htg⟩ (c_X11_buffer l hst G x y p0 p1 (cd, v, z) h) (cwV 2 htg (gd_V hlk q498 q499 q2 q500) rfl rfl rfl (by decide +kernel) ⟨hR1, hR2⟩) ⟨fun a U g mk q => ⟨q.1, q.2.1.calling, q.2.2.1.calling, q.2.2.2.1.calling, q.2.2.2.2.1, q.2.2.2.2.2⟩, rc_14 hK hW, fun U hU hW9 => ⟨rfl, hK.warm hW9, hXt.warm hW9, by rw [hU]; exact (hZ.kept hS).moved hW9.alike, by rw [hU]; exact fun q hq => hA q (Nat.le_trans hS.1 hq), by rw [hU]; exact hW⟩⟩ rfl rfl hn rfl (lv_room hr) hdg hf) hS (fun _ _ h9 => h9) (fun _ h9 => h9) (fun _ _ h9 => h9) ?_ ?_
  · intro E ce q9 u t H1 locs1 ht hvm hp hB hz hk hS1 e1 e2 e3
    obtain ⟨hc, hE, hB⟩ := hB
    replace hB : Wh G z y t.heap := hB
    rw [ht] at hB
    replace hE : E = exN cd := hE
    subst hE
    exact kx hc ce q9 H1 locs1 hB hS1 e1 e2 e3
  · intro r9 u t H1 locs1 ht hvm hw hB hz1 hk1 hS1
    replace hB : Wh G z y t.heap := hB
    rw [ht] at hB
    obtain ⟨hw, hv⟩ := hw
    replace hv : r9 = v := hv
    subst hv
    exact kk hw H1 locs1 hB hS1
/-! METHOD X11_needJob -/
def m_X11_needJob (p0 : Int32) (x : Mem) : Option (Nat × Int32 × Mem) :=
  bd_ (m_X11_isWithin p0 (0 : Int32) ((x 2 ↑((0 : Fin 10)) 0 1) - (1 : Int32))) fun r2 => if r2 = 0 then (some (1, (0 : Int32), x)) else (some (0, (0 : Int32), x))
abbrev WS_X11_needJob : List Cond := .code yX11_needJob cX11_needJob 2 none :: wsG
abbrev RM_X11_needJob : Room := { frames := 6, cells := 1, slots := 6, locals := 90 }
set_option maxHeartbeats 4000000 in
set_option maxRecDepth 100000 in
theorem c_X11_needJob (l : Launch) (hst : l.stackTraces = false) (G : Geo) (x y : Mem) (p0 : Int32) (r : (Nat × Int32 × Mem)) (h : m_X11_needJob p0 x = some r) : vx_Met l yX11_needJob WS_X11_needJob RM_X11_needJob (Px G x y [.ref (gA G 14 0 0), .int p0]) (QXv G r y) (XQ G r y) 1 6 (gF G) := by
  refine vx_ofW (cc := cX11_needJob) (maxL := 2) (ret := none) (by decide) rfl ?_
  intro p e s m args below meth c s₁ B hml htab hv
  obtain ⟨rfl, hK, hXt, hZ, hA, hW⟩ := hv
  have hx := B.exec
  have hb := B.bytes
  have hr := B.returns
  have hts := atoms_spec (ws := WS_X11_needJob) B.pre
  have htg : ∀ w ∈ wsG, w.before _ s = true := fun w h => hts w (List.mem_cons_of_mem _ h)
  have hown : s.vm.findClass RX11 = some m.cls := findClass_of_methodNamed B.named
  have hlocks := B.notSynchronized
  have hS : va_S (gF G) s.heap s.heap [] := va_S.rf
  have hl := lv_entry ([.ref (gA G 14 0 0), .int p0]) (n := 2) (Nat.le_of_ble_eq_true rfl)
  rw [lg_entry_eq]
  generalize (lg_sl ([.ref (gA G 14 0 0), .int p0]) ++ List.replicate (2 - (lg_sl ([.ref (gA G 14 0 0), .int p0])).length) Slot.unset).toArray = ls at hl ⊢
  have hl : lv_has ls 2 [(0, .ref (gA G 14 0 0)), (1, .int p0)] := hl
  have hX := h
  unfold m_X11_needJob at hX
  refine lv_iload_n hx hb dX11_needJob_0 rfl (lv_at hl 1 rfl) ?_
  refine lv_iconst (v := (0 : Int32)) hx hb dX11_needJob_1 (by decide) ?_
  refine lv_aload_n hx hb dX11_needJob_2 rfl (lv_at hl 0 rfl) ?_
  refine gf_14_0 hx hb htg hown hK hW q17 dX11_needJob_3 ?_
  refine gf_2_1 hx hb htg hown hK hW (0 : Fin 10) q618 dX11_needJob_6 ?_
  refine lv_iconst (v := (1 : Int32)) hx hb dX11_needJob_9 (by decide) ?_
  refine lv_isub hx hb dX11_needJob_10 ?_
  obtain ⟨r2, h1, hX⟩ := bd_go hX
  refine k_X11_isWithin hx hb hml hown htg hK hW hS h1 q395 hl.1 (Nat.le_of_ble_eq_true rfl) (Nat.le_of_ble_eq_true rfl) (Nat.le_of_ble_eq_true rfl) ⟨Nat.le_of_ble_eq_true rfl, Nat.le_of_ble_eq_true rfl⟩ dX11_needJob_11 (fun H locs hW hS => ?_)
  refine lv_if_ne (tgt := 28) hx hb dX11_needJob_14 (by decide) (fun c3 => ?_) (fun c3 => ?_)
  · have hX := it_f hX c3
    have hX := Option.some.inj hX
    subst hX
    exact vx_ret (W.widen (k := 1) (n := 6) (Nat.le_of_ble_eq_true rfl) (Nat.le_of_ble_eq_true rfl) (rtx_v hx hb hr hlocks hW hS dX11_needJob_28))
  · have hX := it_t hX c3
    have hX := Option.some.inj hX
    subst hX
    exact thW_1 hx hb hst htg hown hXt hZ hW hS (hl.1.trans hml.symm) (List.mem_of_getElem? (i := 20) rfl) dX11_needJob_17 dX11_needJob_20 dX11_needJob_21 dX11_needJob_24 dX11_needJob_27 htab (Nat.le_of_ble_eq_true rfl) (Nat.le_of_ble_eq_true rfl) (Nat.le_of_ble_eq_true rfl) (Nat.le_of_ble_eq_true rfl) hlocks (Nat.le_of_ble_eq_true rfl) (Nat.le_of_ble_eq_true rfl)
set_option maxHeartbeats 4000000 in
theorem kx_X11_needJob {p : Program} {l : Launch} {e : Env} {R : Room} {s : State} {m : MethodId} {args : Array Value} {below : List Frame} {meth : Method} {c : Code} {H : Heap} {locs : List Loc} {cells slots : Nat} {Q : State → Prop} {cc : ByteArray} {pc nL idx : Nat} {own : String} {ls : Array Slot} {rest : List Value} {G : Geo} {x y : Mem} {p0 : Int32} {cd : Nat} {v : Int32} {z : Mem} (hx : p.tables.exec = Jvm.exec) (hb : c.code = cc) (hml : c.maxLocals = nL) (hown : s.vm.findClass own = some m.cls) (htg : ∀ w ∈ wsG, w.before args s = true) (hst : l.stackTraces = false) (hXt : Xt s) (hZ : Zt G s s.heap) (hA : ∀ q, s.heap.size ≤ q → gF G q) (hK : Kt G s) (hW : Wh G x y H) (hS : va_S (gF G) s.heap H locs) (h : m_X11_needJob p0 x = some (cd, v, z)) (hlk : Cond.methodLink own idx yX11_needJob ∈ wsG) (hn : ls.size = nL) (hr : (rest.map fun v => v.category).sum ≤ 8) (hR1 : 6 + 1 ≤ R.frames) (hR2 : 8 + (2 + 11) + 90 ≤ R.locals) (hf : cells + 1 ≤ R.cells ∧ slots + 6 ≤ R.slots) (hdg : decode cc pc = .ok (.invokevirtual idx, 3)) (kx : ¬ cd = 0 → ∀ (ce : Cell) (q9 : Addr) (H1 : Heap) (locs1 : List Loc), Wh G z y H1 → va_S (gF G) s.heap H1 locs1 → H1[q9]? = some ce → ce.vm = .none → s.vm.findClass (exN cd) = some ce.cls → vx_W p l e R s m args below meth c H1 locs1 (cells + 1) (slots + 6) Q (F0 m pc ls rest) q9) (kk : cd = 0 → ∀ (H1 : Heap) (locs1 : List Loc), Wh G z y H1 → va_S (gF G) s.heap H1 locs1 → W p l e R s m args below meth c H1 locs1 (cells + 1) (slots + 6) Q (F0 m (pc + 3) ls (rest))) : W p l e R s m args below meth c H locs cells slots Q (F0 m pc ls (.int p0 :: .ref (gA G 14 0 0) :: rest)) := by
  refine vx_callv (vx_runV (As := [.int p0]) (rest := rest) ⟨hx, hb, hml, hown, htg⟩ (c_X11_needJob l hst G x y p0 (cd, v, z) h) (cwV 1 htg (gd_V hlk q615 q616 q2 q617) rfl rfl rfl (by decide +kernel) ⟨hR1, hR2⟩) ⟨fun a U g mk q => ⟨q.1, q.2.1.calling, q.2.2.1.calling, q.2.2.2.1.calling, q.2.2.2.2.1, q.2.2.2.2.2⟩, rc_14 hK hW, fun U hU hW9 => ⟨rfl, hK.warm hW9, hXt.warm hW9, by rw [hU]; exact (hZ.kept hS).moved hW9.alike, by rw [hU]; exact fun q hq => hA q (Nat.le_trans hS.1 hq), by rw [hU]; exact hW⟩⟩ rfl rfl hn rfl (lv_room hr) hdg hf) hS (fun _ _ h9 => h9) (fun _ h9 => h9) (fun _ _ h9 => h9) ?_ ?_
  · intro E ce q9 u t H1 locs1 ht hvm hp hB hz hk hS1 e1 e2 e3
    obtain ⟨hc, hE, hB⟩ := hB
    replace hB : Wh G z y t.heap := hB
    rw [ht] at hB
    replace hE : E = exN cd := hE
    subst hE
    exact kx hc ce q9 H1 locs1 hB hS1 e1 e2 e3
  · intro u t H1 locs1 ht hvm hw hB hz1 hk1 hS1
    replace hB : Wh G z y t.heap := hB
    rw [ht] at hB
    exact kk hw H1 locs1 hB hS1
/-! METHOD X11_endsAfter -/
def m_X11_endsAfter_b52 (p0 : Int32) (k52 : Int32 → Mem → Option (Nat × Int32 × Mem)) (x3 : Int32) (x : Mem) : Option (Nat × Int32 × Mem) :=
  if (200 : Int32) < x3 then (some (5, (0 : Int32), x)) else (bd_ (m_X8_makeTick (1 : Fin 10) x) fun x18 => bd_ (m_X1_jobAt (1 : Fin 10) p0) fun r20 => if (x18 12 ↑r20.1 ↑r20.2 7) = (2 : Int32) then (some (0, x3, x18)) else (lt_ (x3 + (1 : Int32)) fun x3_22 => k52 x3_22 x18))
def m_X11_endsAfter_l52 (p0 : Int32) : Nat → Int32 → Mem → Option (Nat × Int32 × Mem)
  | 0, _, _ => none
  | n + 1, x3, x => m_X11_endsAfter_b52 p0 (m_X11_endsAfter_l52 p0 n) x3 x
def m_X11_endsAfter (p0 : Int32) (x : Mem) : Option (Nat × Int32 × Mem) :=
  bx_ (m_X11_needJob p0 x) fun v4 x3 => bd_ (m_X1_jobAt (0 : Fin 10) p0) fun r7 => lt_ (x3 12 ↑r7.1 ↑r7.2 7) fun x2_8 => if x2_8 = (2 : Int32) then (some (0, (0 : Int32), x3)) else (if x2_8 = (3 : Int32) then (some (5, (0 : Int32), x3)) else (bd_ (m_X1_copyFrom (1 : Fin 10) (0 : Fin 10) x3) fun x13 => lt_ (1 : Int32) fun x3_14 => m_X11_endsAfter_l52 p0 FU x3_14 x13))
abbrev WS_X11_endsAfter : List Cond := .code yX11_endsAfter cX11_endsAfter 4 (some .int) :: wsG
abbrev RM_X11_endsAfter : Room := { frames := 7, cells := 3, slots := 18, locals := 121 }
set_option maxHeartbeats 4000000 in
set_option maxRecDepth 100000 in
theorem c_X11_endsAfter (l : Launch) (hst : l.stackTraces = false) (G : Geo) (x y : Mem) (p0 : Int32) (r : (Nat × Int32 × Mem)) (h : m_X11_endsAfter p0 x = some r) : vx_Met l yX11_endsAfter WS_X11_endsAfter RM_X11_endsAfter (Px G x y [.ref (gA G 14 0 0), .int p0]) (QXi G r y) (XQ G r y) 3 18 (gF G) := by
  refine vx_ofW (cc := cX11_endsAfter) (maxL := 4) (ret := (some .int)) (by decide) rfl ?_
  intro p e s m args below meth c s₁ B hml htab hv
  obtain ⟨rfl, hK, hXt, hZ, hA, hW⟩ := hv
  have hx := B.exec
  have hb := B.bytes
  have hr := B.returns
  have hts := atoms_spec (ws := WS_X11_endsAfter) B.pre
  have htg : ∀ w ∈ wsG, w.before _ s = true := fun w h => hts w (List.mem_cons_of_mem _ h)
  have hown : s.vm.findClass RX11 = some m.cls := findClass_of_methodNamed B.named
  have hlocks := B.notSynchronized
  have hS : va_S (gF G) s.heap s.heap [] := va_S.rf
  have hl := lv_entry ([.ref (gA G 14 0 0), .int p0]) (n := 4) (Nat.le_of_ble_eq_true rfl)
  rw [lg_entry_eq]
  generalize (lg_sl ([.ref (gA G 14 0 0), .int p0]) ++ List.replicate (4 - (lg_sl ([.ref (gA G 14 0 0), .int p0])).length) Slot.unset).toArray = ls at hl ⊢
  have hl : lv_has ls 4 [(0, .ref (gA G 14 0 0)), (1, .int p0)] := hl
  have hX := h
  unfold m_X11_endsAfter at hX
  have B_52 : ∀ (k52 : Int32 → Mem → Option (Nat × Int32 × Mem)) (hk52 : ∀ (x3 : Int32) (x : Mem) (H : Heap) (locs : List Loc) (ls : Array Slot), Wh G x y H → va_S (gF G) s.heap H locs → lv_has ls 4 [(0, .ref (gA G 14 0 0)), (1, .int p0), (3, .int x3)] → k52 x3 x = some r → W p l e (headSpec WS_X11_endsAfter RM_X11_endsAfter).room s m ([.ref (gA G 14 0 0), .int p0] : List Value).toArray below meth c H locs (0 + 1) (0 + 6) (vx_MQ below (QXi G r y) (XQ G r y) ([.ref (gA G 14 0 0), .int p0] : List Value).toArray s 3 18 (gF G)) (F0 m 52 ls [])), ∀ (x3 : Int32) (x : Mem) (H : Heap) (locs : List Loc) (ls : Array Slot), Wh G x y H → va_S (gF G) s.heap H locs → lv_has ls 4 [(0, .ref (gA G 14 0 0)), (1, .int p0), (3, .int x3)] → m_X11_endsAfter_b52 p0 k52 x3 x = some r → W p l e (headSpec WS_X11_endsAfter RM_X11_endsAfter).room s m ([.ref (gA G 14 0 0), .int p0] : List Value).toArray below meth c H locs (0 + 1) (0 + 6) (vx_MQ below (QXi G r y) (XQ G r y) ([.ref (gA G 14 0 0), .int p0] : List Value).toArray s 3 18 (gF G)) (F0 m 52 ls []) := by
    intro k52 hk52 x3 x H locs ls hW hS hl hX
    unfold m_X11_endsAfter_b52 at hX
    refine lv_iload_n hx hb dX11_endsAfter_52 rfl (lv_at hl 2 rfl) ?_
    refine lv_sipush (v := (200 : Int32)) hx hb dX11_endsAfter_53 (by decide) ?_
    refine lv_icmp_gt (tgt := 93) hx hb dX11_endsAfter_56 (by decide) (fun c15 => ?_) (fun c15 => ?_)
    · have hX := it_t hX c15
      have hX := Option.some.inj hX
      subst hX
      exact thS_5 hx hb hst htg hown hXt hZ hW hS (hl.1.trans hml.symm) (List.mem_of_getElem? (i := 11) rfl) dX11_endsAfter_93 dX11_endsAfter_96 dX11_endsAfter_97 dX11_endsAfter_99 dX11_endsAfter_102 htab (Nat.le_of_ble_eq_true rfl) (Nat.le_of_ble_eq_true rfl) (Nat.le_of_ble_eq_true rfl) (Nat.le_of_ble_eq_true rfl) hlocks (Nat.le_of_ble_eq_true rfl) (Nat.le_of_ble_eq_true rfl)
    · have hX := it_f hX c15
      refine lv_aload_n hx hb dX11_endsAfter_59 rfl (lv_at hl 0 rfl) ?_
      refine gf_14_5 hx hb htg hown hK hW q28 dX11_endsAfter_60 ?_
      refine lv_aload_n hx hb dX11_endsAfter_63 rfl (lv_at hl 0 rfl) ?_
      refine gf_14_1 hx hb htg hown hK hW q18 dX11_endsAfter_64 ?_
      obtain ⟨x18, h16, hX⟩ := bd_go hX
      refine k_X8_makeTick hx hb hml hown htg hK hW hS h16 q679 hl.1 (Nat.le_of_ble_eq_true rfl) (Nat.le_of_ble_eq_true rfl) (Nat.le_of_ble_eq_true rfl) ⟨Nat.le_of_ble_eq_true rfl, Nat.le_of_ble_eq_true rfl⟩ dX11_endsAfter_67 (fun H locs hW hS => ?_)
      refine lv_aload_n hx hb dX11_endsAfter_70 rfl (lv_at hl 0 rfl) ?_
      refine gf_14_1 hx hb htg hown hK hW q18 dX11_endsAfter_71 ?_
      refine lv_iload_n hx hb dX11_endsAfter_74 rfl (lv_at hl 1 rfl) ?_
      obtain ⟨r20, h19, hX⟩ := bd_go hX
      refine k_X1_jobAt hx hb hml hown htg hK hW hS h19 q619 hl.1 (Nat.le_of_ble_eq_true rfl) (Nat.le_of_ble_eq_true rfl) (Nat.le_of_ble_eq_true rfl) ⟨Nat.le_of_ble_eq_true rfl, Nat.le_of_ble_eq_true rfl⟩ dX11_endsAfter_75 (fun H locs hW hS => ?_)
      refine gf_12_7 hx hb htg hown hK hW r20 q942 dX11_endsAfter_78 ?_
      refine lv_iconst (v := (2 : Int32)) hx hb dX11_endsAfter_81 (by decide) ?_
      refine lv_icmp_ne (tgt := 87) hx hb dX11_endsAfter_82 (by decide) (fun c21 => ?_) (fun c21 => ?_)
      · have hX := it_f hX c21
        obtain ⟨x3_22, e9⟩ : ∃ w : Int32, w = (x3 + (1 : Int32)) := ⟨_, rfl⟩
        have hX := lt_go hX e9
        refine lv_iinc (v := x3_22) (lv' := [(3, .int x3_22), (0, .ref (gA G 14 0 0)), (1, .int p0)]) hx hb dX11_endsAfter_87 hl (k := 2) rfl (by rw [e9]; rfl) (by decide) rfl (fun ls hl => ?_)
        refine lv_goto (tgt := 52) hx hb dX11_endsAfter_90 (by decide) ?_
        exact hk52 _ _ _ _ _ hW hS (lv_sub hl [1, 2, 0] rfl) hX
      · have hX := it_t hX c21
        refine lv_iload_n hx hb dX11_endsAfter_85 rfl (lv_at hl 2 rfl) ?_
        have hX := Option.some.inj hX
        subst hX
        exact vx_ret (W.widen (k := 3) (n := 18) (Nat.le_of_ble_eq_true rfl) (Nat.le_of_ble_eq_true rfl) (rtx_i hx hb hr hlocks hW hS dX11_endsAfter_86))
  have L_52 : ∀ (n : Nat), ∀ (x3 : Int32) (x : Mem) (H : Heap) (locs : List Loc) (ls : Array Slot), Wh G x y H → va_S (gF G) s.heap H locs → lv_has ls 4 [(0, .ref (gA G 14 0 0)), (1, .int p0), (3, .int x3)] → m_X11_endsAfter_l52 p0 n x3 x = some r → W p l e (headSpec WS_X11_endsAfter RM_X11_endsAfter).room s m ([.ref (gA G 14 0 0), .int p0] : List Value).toArray below meth c H locs (0 + 1) (0 + 6) (vx_MQ below (QXi G r y) (XQ G r y) ([.ref (gA G 14 0 0), .int p0] : List Value).toArray s 3 18 (gF G)) (F0 m 52 ls []) := by
    intro n
    induction n with
    | zero => intro x3 x H locs ls hW hS hl hX; exact no_go hX
    | succ n ih => intro x3 x H locs ls hW hS hl hX; exact B_52 _ ih _ _ _ _ _ hW hS hl hX
  refine lv_aload_n hx hb dX11_endsAfter_0 rfl (lv_at hl 0 rfl) ?_
  refine lv_iload_n hx hb dX11_endsAfter_1 rfl (lv_at hl 1 rfl) ?_
  rcases bx_go hX with ⟨v4, x3, h1, hX⟩ | ⟨c5, v4, x3, c5h, h1, hX⟩
  rotate_left
  · subst hX; exact kx_X11_needJob hx hb hml hown htg hst hXt hZ hA hK hW hS h1 q614 hl.1 (Nat.le_of_ble_eq_true rfl) (Nat.le_of_ble_eq_true rfl) (Nat.le_of_ble_eq_true rfl) ⟨Nat.le_of_ble_eq_true rfl, Nat.le_of_ble_eq_true rfl⟩ dX11_endsAfter_2 (fun hc ce q9 H1 locs1 hW hS e1 e2 e3 => x_out c5h htab hlocks e1 e2 e3 hW hS (Nat.le_of_ble_eq_true rfl) (Nat.le_of_ble_eq_true rfl)) (fun h0 => absurd h0 c5h)
  refine kx_X11_needJob hx hb hml hown htg hst hXt hZ hA hK hW hS h1 q614 hl.1 (Nat.le_of_ble_eq_true rfl) (Nat.le_of_ble_eq_true rfl) (Nat.le_of_ble_eq_true rfl) ⟨Nat.le_of_ble_eq_true rfl, Nat.le_of_ble_eq_true rfl⟩ dX11_endsAfter_2 (fun hc => absurd rfl hc) (fun _ H locs hW hS => ?_)
  refine lv_aload_n hx hb dX11_endsAfter_5 rfl (lv_at hl 0 rfl) ?_
  refine gf_14_0 hx hb htg hown hK hW q17 dX11_endsAfter_6 ?_
  refine lv_iload_n hx hb dX11_endsAfter_9 rfl (lv_at hl 1 rfl) ?_
  obtain ⟨r7, h6, hX⟩ := bd_go hX
  refine k_X1_jobAt hx hb hml hown htg hK hW hS h6 q619 hl.1 (Nat.le_of_ble_eq_true rfl) (Nat.le_of_ble_eq_true rfl) (Nat.le_of_ble_eq_true rfl) ⟨Nat.le_of_ble_eq_true rfl, Nat.le_of_ble_eq_true rfl⟩ dX11_endsAfter_10 (fun H locs hW hS => ?_)
  refine gf_12_7 hx hb htg hown hK hW r7 q942 dX11_endsAfter_13 ?_
  refine lv_topi (fun x2_8 e9 => ?_)
  have hX := lt_go hX e9
  refine lv_istore_n (lv' := [(2, .int x2_8), (0, .ref (gA G 14 0 0)), (1, .int p0)]) hx hb dX11_endsAfter_16 rfl hl (by decide) rfl (fun ls hl => ?_)
  refine lv_iload_n hx hb dX11_endsAfter_17 rfl (lv_at hl 0 rfl) ?_
  refine lv_iconst (v := (2 : Int32)) hx hb dX11_endsAfter_18 (by decide) ?_
  refine lv_icmp_ne (tgt := 24) hx hb dX11_endsAfter_19 (by decide) (fun c9 => ?_) (fun c9 => ?_)
  · have hX := it_f hX c9
    refine lv_iload_n hx hb dX11_endsAfter_24 rfl (lv_at hl 0 rfl) ?_
    refine lv_iconst (v := (3 : Int32)) hx hb dX11_endsAfter_25 (by decide) ?_
    refine lv_icmp_ne (tgt := 39) hx hb dX11_endsAfter_26 (by decide) (fun c10 => ?_) (fun c10 => ?_)
    · have hX := it_f hX c10
      refine lv_aload_n hx hb dX11_endsAfter_39 rfl (lv_at hl 1 rfl) ?_
      refine gf_14_1 hx hb htg hown hK hW q18 dX11_endsAfter_40 ?_
      refine lv_aload_n hx hb dX11_endsAfter_43 rfl (lv_at hl 1 rfl) ?_
      refine gf_14_0 hx hb htg hown hK hW q17 dX11_endsAfter_44 ?_
      obtain ⟨x13, h11, hX⟩ := bd_go hX
      refine k_X1_copyFrom hx hb hml hown htg hK hW hS h11 q943 hl.1 (Nat.le_of_ble_eq_true rfl) (Nat.le_of_ble_eq_true rfl) (Nat.le_of_ble_eq_true rfl) ⟨Nat.le_of_ble_eq_true rfl, Nat.le_of_ble_eq_true rfl⟩ dX11_endsAfter_47 (fun H locs hW hS => ?_)
      refine lv_iconst (v := (1 : Int32)) hx hb dX11_endsAfter_50 (by decide) ?_
      refine lv_topi (fun x3_14 e9 => ?_)
      have hX := lt_go hX e9
      refine lv_istore_n (lv' := [(3, .int x3_14), (2, .int x2_8), (0, .ref (gA G 14 0 0)), (1, .int p0)]) hx hb dX11_endsAfter_51 rfl hl (by decide) rfl (fun ls hl => ?_)
      exact L_52 FU _ _ _ _ _ hW hS (lv_sub hl [2, 3, 0] rfl) hX
    · have hX := it_t hX c10
      have hX := Option.some.inj hX
      subst hX
      exact thS_5 hx hb hst htg hown hXt hZ hW hS (hl.1.trans hml.symm) (List.mem_of_getElem? (i := 10) rfl) dX11_endsAfter_29 dX11_endsAfter_32 dX11_endsAfter_33 dX11_endsAfter_35 dX11_endsAfter_38 htab (Nat.le_of_ble_eq_true rfl) (Nat.le_of_ble_eq_true rfl) (Nat.le_of_ble_eq_true rfl) (Nat.le_of_ble_eq_true rfl) hlocks (Nat.le_of_ble_eq_true rfl) (Nat.le_of_ble_eq_true rfl)
  · have hX := it_t hX c9
    refine lv_iconst (v := (0 : Int32)) hx hb dX11_endsAfter_22 (by decide) ?_
    have hX := Option.some.inj hX
    subst hX
    exact vx_ret (W.widen (k := 3) (n := 18) (Nat.le_of_ble_eq_true rfl) (Nat.le_of_ble_eq_true rfl) (rtx_i hx hb hr hlocks hW hS dX11_endsAfter_23))
set_option maxHeartbeats 4000000 in
theorem kx_X11_endsAfter {p : Program} {l : Launch} {e : Env} {R : Room} {s : State} {m : MethodId} {args : Array Value} {below : List Frame} {meth : Method} {c : Code} {H : Heap} {locs : List Loc} {cells slots : Nat} {Q : State → Prop} {cc : ByteArray} {pc nL idx : Nat} {own : String} {ls : Array Slot} {rest : List Value} {G : Geo} {x y : Mem} {p0 : Int32} {cd : Nat} {v : Int32} {z : Mem} (hx : p.tables.exec = Jvm.exec) (hb : c.code = cc) (hml : c.maxLocals = nL) (hown : s.vm.findClass own = some m.cls) (htg : ∀ w ∈ wsG, w.before args s = true) (hst : l.stackTraces = false) (hXt : Xt s) (hZ : Zt G s s.heap) (hA : ∀ q, s.heap.size ≤ q → gF G q) (hK : Kt G s) (hW : Wh G x y H) (hS : va_S (gF G) s.heap H locs) (h : m_X11_endsAfter p0 x = some (cd, v, z)) (hlk : Cond.methodLink own idx yX11_endsAfter ∈ wsG) (hn : ls.size = nL) (hr : (rest.map fun v => v.category).sum ≤ 8) (hR1 : 7 + 1 ≤ R.frames) (hR2 : 8 + (4 + 11) + 121 ≤ R.locals) (hf : cells + 3 ≤ R.cells ∧ slots + 18 ≤ R.slots) (hdg : decode cc pc = .ok (.invokevirtual idx, 3)) (kx : ¬ cd = 0 → ∀ (ce : Cell) (q9 : Addr) (H1 : Heap) (locs1 : List Loc), Wh G z y H1 → va_S (gF G) s.heap H1 locs1 → H1[q9]? = some ce → ce.vm = .none → s.vm.findClass (exN cd) = some ce.cls → vx_W p l e R s m args below meth c H1 locs1 (cells + 3) (slots + 18) Q (F0 m pc ls rest) q9) (kk : cd = 0 → ∀ (H1 : Heap) (locs1 : List Loc), Wh G z y H1 → va_S (gF G) s.heap H1 locs1 → W p l e R s m args below meth c H1 locs1 (cells + 3) (slots + 18) Q (F0 m (pc + 3) ls (.int v :: rest))) : W p l e R s m args below meth c H locs cells slots Q (F0 m pc ls (.int p0 :: .ref (gA G 14 0 0) :: rest)) := by
  refine vx_calli (vx_runV (As := [.int p0]) (rest := rest) ⟨hx, hb, hml, hown, htg⟩ (c_X11_endsAfter l hst G x y p0 (cd, v, z) h) (cwV 1 htg (gd_V hlk q939 q940 q2 q941) rfl rfl rfl (by decide +kernel) ⟨hR1, hR2⟩) ⟨fun a U g mk q => ⟨q.1, q.2.1.calling, q.2.2.1.calling, q.2.2.2.1.calling, q.2.2.2.2.1, q.2.2.2.2.2⟩, rc_14 hK hW, fun U hU hW9 => ⟨rfl, hK.warm hW9, hXt.warm hW9, by rw [hU]; exact (hZ.kept hS).moved hW9.alike, by rw [hU]; exact fun q hq => hA q (Nat.le_trans hS.1 hq), by rw [hU]; exact hW⟩⟩ rfl rfl hn rfl (lv_room hr) hdg hf) hS (fun _ _ h9 => h9) (fun _ h9 => h9) (fun _ _ h9 => h9) ?_ ?_
  · intro E ce q9 u t H1 locs1 ht hvm hp hB hz hk hS1 e1 e2 e3
    obtain ⟨hc, hE, hB⟩ := hB
    replace hB : Wh G z y t.heap := hB
    rw [ht] at hB
    replace hE : E = exN cd := hE
    subst hE
    exact kx hc ce q9 H1 locs1 hB hS1 e1 e2 e3
  · intro r9 u t H1 locs1 ht hvm hw hB hz1 hk1 hS1
    replace hB : Wh G z y t.heap := hB
    rw [ht] at hB
    obtain ⟨hw, hv⟩ := hw
    replace hv : r9 = v := hv
    subst hv
    exact kk hw H1 locs1 hB hS1
/-! METHOD X11_entry -/
def m_X11_entry (p0 : Int32) (p1 : Int32) (x : Mem) : Option (Nat × Int32 × Mem) :=
  bd_ (m_X7_kept ((0 : Fin 10)) x) fun r2 => bd_ (m_X11_isWithin p0 (0 : Int32) (r2 - (1 : Int32))) fun r4 => if r4 = 0 then (some (1, (0 : Int32), x)) else (bx_ (m_X11_need p1 (3 : Int32) x) fun v9 x8 => bd_ (m_X7_partOf ((0 : Fin 10)) p0 p1 x8) fun r12 => some (0, r12, x8))
abbrev WS_X11_entry : List Cond := .code yX11_entry cX11_entry 3 (some .int) :: wsG
abbrev RM_X11_entry : Room := { frames := 7, cells := 3, slots := 18, locals := 111 }
set_option maxHeartbeats 4000000 in
set_option maxRecDepth 100000 in
theorem c_X11_entry (l : Launch) (hst : l.stackTraces = false) (G : Geo) (x y : Mem) (p0 : Int32) (p1 : Int32) (r : (Nat × Int32 × Mem)) (h : m_X11_entry p0 p1 x = some r) : vx_Met l yX11_entry WS_X11_entry RM_X11_entry (Px G x y [.ref (gA G 14 0 0), .int p0, .int p1]) (QXi G r y) (XQ G r y) 3 18 (gF G) := by
  refine vx_ofW (cc := cX11_entry) (maxL := 3) (ret := (some .int)) (by decide) rfl ?_
  intro p e s m args below meth c s₁ B hml htab hv
  obtain ⟨rfl, hK, hXt, hZ, hA, hW⟩ := hv
  have hx := B.exec
  have hb := B.bytes
  have hr := B.returns
  have hts := atoms_spec (ws := WS_X11_entry) B.pre
  have htg : ∀ w ∈ wsG, w.before _ s = true := fun w h => hts w (List.mem_cons_of_mem _ h)
  have hown : s.vm.findClass RX11 = some m.cls := findClass_of_methodNamed B.named
  have hlocks := B.notSynchronized
  have hS : va_S (gF G) s.heap s.heap [] := va_S.rf
  have hl := lv_entry ([.ref (gA G 14 0 0), .int p0, .int p1]) (n := 3) (Nat.le_of_ble_eq_true rfl)
  rw [lg_entry_eq]
  generalize (lg_sl ([.ref (gA G 14 0 0), .int p0, .int p1]) ++ List.replicate (3 - (lg_sl ([.ref (gA G 14 0 0), .int p0, .int p1])).length) Slot.unset).toArray = ls at hl ⊢
  have hl : lv_has ls 3 [(0, .ref (gA G 14 0 0)), (1, .int p0), (2, .int p1)] := hl
  have hX := h
  unfold m_X11_entry at hX
  refine lv_iload_n hx hb dX11_entry_0 rfl (lv_at hl 1 rfl) ?_
  refine lv_iconst (v := (0 : Int32)) hx hb dX11_entry_1 (by decide) ?_
  refine lv_aload_n hx hb dX11_entry_2 rfl (lv_at hl 0 rfl) ?_
  refine gf_14_0 hx hb htg hown hK hW q17 dX11_entry_3 ?_
  refine gf_2_8 hx hb htg hown hK hW (0 : Fin 10) q990 dX11_entry_6 ?_
  obtain ⟨r2, h1, hX⟩ := bd_go hX
  refine k_X7_kept hx hb hml hown htg hK hW hS h1 q991 hl.1 (Nat.le_of_ble_eq_true rfl) (Nat.le_of_ble_eq_true rfl) (Nat.le_of_ble_eq_true rfl) ⟨Nat.le_of_ble_eq_true rfl, Nat.le_of_ble_eq_true rfl⟩ dX11_entry_9 (fun H locs hW hS => ?_)
  refine lv_iconst (v := (1 : Int32)) hx hb dX11_entry_12 (by decide) ?_
  refine lv_isub hx hb dX11_entry_13 ?_
  obtain ⟨r4, h3, hX⟩ := bd_go hX
  refine k_X11_isWithin hx hb hml hown htg hK hW hS h3 q395 hl.1 (Nat.le_of_ble_eq_true rfl) (Nat.le_of_ble_eq_true rfl) (Nat.le_of_ble_eq_true rfl) ⟨Nat.le_of_ble_eq_true rfl, Nat.le_of_ble_eq_true rfl⟩ dX11_entry_14 (fun H locs hW hS => ?_)
  refine lv_if_ne (tgt := 30) hx hb dX11_entry_17 (by decide) (fun c5 => ?_) (fun c5 => ?_)
  · have hX := it_f hX c5
    refine lv_iload_n hx hb dX11_entry_30 rfl (lv_at hl 2 rfl) ?_
    refine lv_iconst (v := (3 : Int32)) hx hb dX11_entry_31 (by decide) ?_
    rcases bx_go hX with ⟨v9, x8, h6, hX⟩ | ⟨c10, v9, x8, c10h, h6, hX⟩
    rotate_left
    · subst hX; exact kx_X11_need hx hb hml hown htg hst hXt hZ hA hK hW hS h6 q396 hl.1 (Nat.le_of_ble_eq_true rfl) (Nat.le_of_ble_eq_true rfl) (Nat.le_of_ble_eq_true rfl) ⟨Nat.le_of_ble_eq_true rfl, Nat.le_of_ble_eq_true rfl⟩ dX11_entry_32 (fun hc ce q9 H1 locs1 hW hS e1 e2 e3 => x_out c10h htab hlocks e1 e2 e3 hW hS (Nat.le_of_ble_eq_true rfl) (Nat.le_of_ble_eq_true rfl)) (fun h0 => absurd h0 c10h)
    refine kx_X11_need hx hb hml hown htg hst hXt hZ hA hK hW hS h6 q396 hl.1 (Nat.le_of_ble_eq_true rfl) (Nat.le_of_ble_eq_true rfl) (Nat.le_of_ble_eq_true rfl) ⟨Nat.le_of_ble_eq_true rfl, Nat.le_of_ble_eq_true rfl⟩ dX11_entry_32 (fun hc => absurd rfl hc) (fun _ H locs hW hS => ?_)
    refine lv_aload_n hx hb dX11_entry_35 rfl (lv_at hl 0 rfl) ?_
    refine gf_14_0 hx hb htg hown hK hW q17 dX11_entry_36 ?_
    refine gf_2_8 hx hb htg hown hK hW (0 : Fin 10) q990 dX11_entry_39 ?_
    refine lv_iload_n hx hb dX11_entry_42 rfl (lv_at hl 1 rfl) ?_
    refine lv_iload_n hx hb dX11_entry_43 rfl (lv_at hl 2 rfl) ?_
    obtain ⟨r12, h11, hX⟩ := bd_go hX
    refine k_X7_partOf hx hb hml hown htg hK hW hS h11 q995 hl.1 (Nat.le_of_ble_eq_true rfl) (Nat.le_of_ble_eq_true rfl) (Nat.le_of_ble_eq_true rfl) ⟨Nat.le_of_ble_eq_true rfl, Nat.le_of_ble_eq_true rfl⟩ dX11_entry_44 (fun H locs hW hS => ?_)
    have hX := Option.some.inj hX
    subst hX
    exact vx_ret (W.widen (k := 3) (n := 18) (Nat.le_of_ble_eq_true rfl) (Nat.le_of_ble_eq_true rfl) (rtx_i hx hb hr hlocks hW hS dX11_entry_47))
  · have hX := it_t hX c5
    have hX := Option.some.inj hX
    subst hX
    exact thS_1 hx hb hst htg hown hXt hZ hW hS (hl.1.trans hml.symm) (List.mem_of_getElem? (i := 13) rfl) dX11_entry_20 dX11_entry_23 dX11_entry_24 dX11_entry_26 dX11_entry_29 htab (Nat.le_of_ble_eq_true rfl) (Nat.le_of_ble_eq_true rfl) (Nat.le_of_ble_eq_true rfl) (Nat.le_of_ble_eq_true rfl) hlocks (Nat.le_of_ble_eq_true rfl) (Nat.le_of_ble_eq_true rfl)
set_option maxHeartbeats 4000000 in
theorem kx_X11_entry {p : Program} {l : Launch} {e : Env} {R : Room} {s : State} {m : MethodId} {args : Array Value} {below : List Frame} {meth : Method} {c : Code} {H : Heap} {locs : List Loc} {cells slots : Nat} {Q : State → Prop} {cc : ByteArray} {pc nL idx : Nat} {own : String} {ls : Array Slot} {rest : List Value} {G : Geo} {x y : Mem} {p0 : Int32} {p1 : Int32} {cd : Nat} {v : Int32} {z : Mem} (hx : p.tables.exec = Jvm.exec) (hb : c.code = cc) (hml : c.maxLocals = nL) (hown : s.vm.findClass own = some m.cls) (htg : ∀ w ∈ wsG, w.before args s = true) (hst : l.stackTraces = false) (hXt : Xt s) (hZ : Zt G s s.heap) (hA : ∀ q, s.heap.size ≤ q → gF G q) (hK : Kt G s) (hW : Wh G x y H) (hS : va_S (gF G) s.heap H locs) (h : m_X11_entry p0 p1 x = some (cd, v, z)) (hlk : Cond.methodLink own idx yX11_entry ∈ wsG) (hn : ls.size = nL) (hr : (rest.map fun v => v.category).sum ≤ 8) (hR1 : 7 + 1 ≤ R.frames) (hR2 : 8 + (3 + 11) + 111 ≤ R.locals) (hf : cells + 3 ≤ R.cells ∧ slots + 18 ≤ R.slots) (hdg : decode cc pc = .ok (.invokevirtual idx, 3)) (kx : ¬ cd = 0 → ∀ (ce : Cell) (q9 : Addr) (H1 : Heap) (locs1 : List Loc), Wh G z y H1 → va_S (gF G) s.heap H1 locs1 → H1[q9]? = some ce → ce.vm = .none → s.vm.findClass (exN cd) = some ce.cls → vx_W p l e R s m args below meth c H1 locs1 (cells + 3) (slots + 18) Q (F0 m pc ls rest) q9) (kk : cd = 0 → ∀ (H1 : Heap) (locs1 : List Loc), Wh G z y H1 → va_S (gF G) s.heap H1 locs1 → W p l e R s m args below meth c H1 locs1 (cells + 3) (slots + 18) Q (F0 m (pc + 3) ls (.int v :: rest))) : W p l e R s m args below meth c H locs cells slots Q (F0 m pc ls (.int p1 :: .int p0 :: .ref (gA G 14 0 0) :: rest)) := by
  refine vx_calli (vx_runV (As := [.int p0, .int p1]) (rest := rest) ⟨hx, hb, hml, hown, htg⟩ (c_X11_entry l hst G x y p0 p1 (cd, v, z) h) (cwV 2 htg (gd_V hlk q987 q988 q2 q989) rfl rfl rfl (by decide +kernel) ⟨hR1, hR2⟩) ⟨fun a U g mk q => ⟨q.1, q.2.1.calling, q.2.2.1.calling, q.2.2.2.1.calling, q.2.2.2.2.1, q.2.2.2.2.2⟩, rc_14 hK hW, fun U hU hW9 => ⟨rfl, hK.warm hW9, hXt.warm hW9, by rw [hU]; exact (hZ.kept hS).moved hW9.alike, by rw [hU]; exact fun q hq => hA q (Nat.le_trans hS.1 hq), by rw [hU]; exact hW⟩⟩ rfl rfl hn rfl (lv_room hr) hdg hf) hS (fun _ _ h9 => h9) (fun _ h9 => h9) (fun _ _ h9 => h9) ?_ ?_
  · intro E ce q9 u t H1 locs1 ht hvm hp hB hz hk hS1 e1 e2 e3
    obtain ⟨hc, hE, hB⟩ := hB
    replace hB : Wh G z y t.heap := hB
    rw [ht] at hB
    replace hE : E = exN cd := hE
    subst hE
    exact kx hc ce q9 H1 locs1 hB hS1 e1 e2 e3
  · intro r9 u t H1 locs1 ht hvm hw hB hz1 hk1 hS1
    replace hB : Wh G z y t.heap := hB
    rw [ht] at hB
    obtain ⟨hw, hv⟩ := hw
    replace hv : r9 = v := hv
    subst hv
    exact kk hw H1 locs1 hB hS1
