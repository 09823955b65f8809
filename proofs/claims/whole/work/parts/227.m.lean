/-! METHOD X11_reason -/
def m_X11_reason (p0 : Int32) (p1 : Int32) (x : Mem) : Option (Nat × Int32 × Mem) :=
  bx_ (m_X11_needArm p0 x) fun v4 x3 => bd_ (m_X1_armAt (0 : Fin 10) p0) fun r7 => if (x3 0 ↑r7.1 ↑r7.2 7) = 0 then (some (5, (0 : Int32), x3)) else (if p1 = 0 then (some (0, (x3 0 ↑r7.1 ↑r7.2 8), x3)) else (some (0, (x3 0 ↑r7.1 ↑r7.2 9), x3)))
abbrev WS_X11_reason : List Cond := .code yX11_reason cX11_reason 4 (some .int) :: wsG
abbrev RM_X11_reason : Room := { frames := 7, cells := 3, slots := 18, locals := 110 }
set_option maxHeartbeats 4000000 in
set_option maxRecDepth 100000 in
theorem c_X11_reason (l : Launch) (hst : l.stackTraces = false) (G : Geo) (x y : Mem) (p0 : Int32) (p1 : Int32) (r : (Nat × Int32 × Mem)) (h : m_X11_reason p0 p1 x = some r) : vx_Met l yX11_reason WS_X11_reason RM_X11_reason (Px G x y [.ref (gA G 14 0 0), .int p0, .int p1]) (QXi G r y) (XQ G r y) 3 18 (gF G) := by
  refine vx_ofW (cc := cX11_reason) (maxL := 4) (ret := (some .int)) (by decide) rfl ?_
  intro p e s m args below meth c s₁ B hml htab hv
  obtain ⟨rfl, hK, hXt, hZ, hA, hW⟩ := hv
  have hx := B.exec
  have hb := B.bytes
  have hr := B.returns
  have hts := atoms_spec (ws := WS_X11_reason) B.pre
  have htg : ∀ w ∈ wsG, w.before _ s = true := fun w h => hts w (List.mem_cons_of_mem _ h)
  have hown : s.vm.findClass RX11 = some m.cls := findClass_of_methodNamed B.named
  have hlocks := B.notSynchronized
  have hS : va_S (gF G) s.heap s.heap [] := va_S.rf
  have hl := lv_entry ([.ref (gA G 14 0 0), .int p0, .int p1]) (n := 4) (Nat.le_of_ble_eq_true rfl)
  rw [lg_entry_eq]
  generalize (lg_sl ([.ref (gA G 14 0 0), .int p0, .int p1]) ++ List.replicate (4 - (lg_sl ([.ref (gA G 14 0 0), .int p0, .int p1])).length) Slot.unset).toArray = ls at hl ⊢
  have hl : lv_has ls 4 [(0, .ref (gA G 14 0 0)), (1, .int p0), (2, .int p1)] := hl
  have hX := h
  unfold m_X11_reason at hX
  refine lv_iload_n hx hb dX11_reason_0 rfl (lv_at hl 1 rfl) ?_
  rcases bx_go hX with ⟨v4, x3, h1, hX⟩ | ⟨c5, v4, x3, c5h, h1, hX⟩
  rotate_left
  · subst hX; exact kx_X11_needArm hx hb hml hown htg hst hXt hZ hA hK hW hS h1 q392 hl.1 (Nat.le_of_ble_eq_true rfl) (Nat.le_of_ble_eq_true rfl) (Nat.le_of_ble_eq_true rfl) ⟨Nat.le_of_ble_eq_true rfl, Nat.le_of_ble_eq_true rfl⟩ dX11_reason_1 (fun hc ce q9 H1 locs1 hW hS e1 e2 e3 => x_out c5h htab hlocks e1 e2 e3 hW hS (Nat.le_of_ble_eq_true rfl) (Nat.le_of_ble_eq_true rfl)) (fun h0 => absurd h0 c5h)
  refine kx_X11_needArm hx hb hml hown htg hst hXt hZ hA hK hW hS h1 q392 hl.1 (Nat.le_of_ble_eq_true rfl) (Nat.le_of_ble_eq_true rfl) (Nat.le_of_ble_eq_true rfl) ⟨Nat.le_of_ble_eq_true rfl, Nat.le_of_ble_eq_true rfl⟩ dX11_reason_1 (fun hc => absurd rfl hc) (fun _ H locs hW hS => ?_)
  refine lv_aload_n hx hb dX11_reason_4 rfl (lv_at hl 0 rfl) ?_
  refine gf_14_0 hx hb htg hown hK hW q17 dX11_reason_5 ?_
  refine lv_iload_n hx hb dX11_reason_8 rfl (lv_at hl 1 rfl) ?_
  obtain ⟨r7, h6, hX⟩ := bd_go hX
  refine k_X1_armAt hx hb hml hown htg hK hW hS h6 q399 hl.1 (Nat.le_of_ble_eq_true rfl) (Nat.le_of_ble_eq_true rfl) (Nat.le_of_ble_eq_true rfl) ⟨Nat.le_of_ble_eq_true rfl, Nat.le_of_ble_eq_true rfl⟩ dX11_reason_9 (fun H locs hW hS => ?_)
  refine lv_astore_n (lv' := [(3, .ref (gA G 0 ↑r7.1 ↑r7.2)), (0, .ref (gA G 14 0 0)), (1, .int p0), (2, .int p1)]) hx hb dX11_reason_12 rfl hl (by decide) rfl (fun ls hl => ?_)
  refine lv_aload_n hx hb dX11_reason_13 rfl (lv_at hl 0 rfl) ?_
  refine gf_0_7 hx hb htg hown hK hW r7 q914 dX11_reason_14 ?_
  refine lv_if_ne (tgt := 30) hx hb dX11_reason_17 (by decide) (fun c8 => ?_) (fun c8 => ?_)
  · have hX := it_f hX c8
    refine lv_iload_n hx hb dX11_reason_30 rfl (lv_at hl 3 rfl) ?_
    refine lv_if_eq (tgt := 41) hx hb dX11_reason_31 (by decide) (fun c9 => ?_) (fun c9 => ?_)
    · have hX := it_t hX c9
      refine lv_aload_n hx hb dX11_reason_41 rfl (lv_at hl 0 rfl) ?_
      refine gf_0_8 hx hb htg hown hK hW r7 q916 dX11_reason_42 ?_
      have hX := Option.some.inj hX
      subst hX
      exact vx_ret (W.widen (k := 3) (n := 18) (Nat.le_of_ble_eq_true rfl) (Nat.le_of_ble_eq_true rfl) (rtx_i hx hb hr hlocks hW hS dX11_reason_45))
    · have hX := it_f hX c9
      refine lv_aload_n hx hb dX11_reason_34 rfl (lv_at hl 0 rfl) ?_
      refine gf_0_9 hx hb htg hown hK hW r7 q915 dX11_reason_35 ?_
      refine lv_goto (tgt := 45) hx hb dX11_reason_38 (by decide) ?_
      have hX := Option.some.inj hX
      subst hX
      exact vx_ret (W.widen (k := 3) (n := 18) (Nat.le_of_ble_eq_true rfl) (Nat.le_of_ble_eq_true rfl) (rtx_i hx hb hr hlocks hW hS dX11_reason_45))
  · have hX := it_t hX c8
    have hX := Option.some.inj hX
    subst hX
    exact thS_5 hx hb hst htg hown hXt hZ hW hS (hl.1.trans hml.symm) (List.mem_of_getElem? (i := 8) rfl) dX11_reason_20 dX11_reason_23 dX11_reason_24 dX11_reason_26 dX11_reason_29 htab (Nat.le_of_ble_eq_true rfl) (Nat.le_of_ble_eq_true rfl) (Nat.le_of_ble_eq_true rfl) (Nat.le_of_ble_eq_true rfl) hlocks (Nat.le_of_ble_eq_true rfl) (Nat.le_of_ble_eq_true rfl)
set_option maxHeartbeats 4000000 in
theorem kx_X11_reason {p : Program} {l : Launch} {e : Env} {R : Room} {s : State} {m : MethodId} {args : Array Value} {below : List Frame} {meth : Method} {c : Code} {H : Heap} {locs : List Loc} {cells slots : Nat} {Q : State → Prop} {cc : ByteArray} {pc nL idx : Nat} {own : String} {ls : Array Slot} {rest : List Value} {G : Geo} {x y : Mem} {p0 : Int32} {p1 : Int32} {cd : Nat} {v : Int32} {z : Mem} (hx : p.tables.exec = Jvm.exec) (hb : c.code = cc) (hml : c.maxLocals = nL) (hown : s.vm.findClass own = some m.cls) (htg : ∀ w ∈ wsG, w.before args s = true) (hst : l.stackTraces = false) (hXt : Xt s) (hZ : Zt G s s.heap) (hA : ∀ q, s.heap.size ≤ q → gF G q) (hK : Kt G s) (hW : Wh G x y H) (hS : va_S (gF G) s.heap H locs) (h : m_X11_reason p0 p1 x = some (cd, v, z)) (hlk : Cond.methodLink own idx yX11_reason ∈ wsG) (hn : ls.size = nL) (hr : (rest.map fun v => v.category).sum ≤ 8) (hR1 : 7 + 1 ≤ R.frames) (hR2 : 8 + (4 + 11) + 110 ≤ R.locals) (hf : cells + 3 ≤ R.cells ∧ slots + 18 ≤ R.slots) (hdg : decode cc pc = .ok (.invokevirtual idx, 3)) (kx : ¬ cd = 0 → ∀ (ce : Cell) (q9 : Addr) (H1 : Heap) (locs1 : List Loc), Wh G z y H1 → va_S (gF G) s.heap H1 locs1 → H1[q9]? = some ce → ce.vm = .none → s.vm.findClass (exN cd) = some ce.cls → vx_W p l e R s m args below meth c H1 locs1 (cells + 3) (slots + 18) Q (F0 m pc ls rest) q9) (kk : cd = 0 → ∀ (H1 : Heap) (locs1 : List Loc), Wh G z y H1 → va_S (gF G) s.heap H1 locs1 → W p l e R s m args below meth c H1 locs1 (cells + 3) (slots + 18) Q (F0 m (pc + 3) ls (.int v :: rest))) : W p l e R s m args below meth c H locs cells slots Q (F0 m pc ls (.int p1 :: .int p0 :: .ref (gA G 14 0 0) :: rest)) := by
  refine vx_calli (vx_runV (As := [.int p0, .int p1]) (rest := rest) ⟨hx, hb, hml, hown, htg⟩ (c_X11_reason l hst G x y p0 p1 (cd, v, z) h) (cwV 2 htg (gd_V hlk q911 q912 q2 q913) rfl rfl rfl (by decide +kernel) ⟨hR1, hR2⟩) ⟨fun a U g mk q => ⟨q.1, q.2.1.calling, q.2.2.1.calling, q.2.2.2.1.calling, q.2.2.2.2.1, q.2.2.2.2.2⟩, rc_14 hK hW, fun U hU hW9 => ⟨rfl, hK.warm hW9, hXt.warm hW9, by rw [hU]; exact (hZ.kept hS).moved hW9.alike, by rw [hU]; exact fun q hq => hA q (Nat.le_trans hS.1 hq), by rw [hU]; exact hW⟩⟩ rfl rfl hn rfl (lv_room hr) hdg hf) hS (fun _ _ h9 => h9) (fun _ h9 => h9) (fun _ _ h9 => h9) ?_ ?_
  · intro E ce q9 u t H1 locs1 ht hvm hp hB hz hk hS1 e1 e2 e3
    obtain ⟨hc, hE, hB⟩ := hB
    replace hB : Wh G z y t.heap := hB
    rw [ht] at hB
    replace hE : E = exN cd := hE
    subst hE
    exact kx hc ce q9 H1 locs1 hB hS1 e1 e2 e3
  · intro r9 u t H1 locs1 ht hvm hw hB hz1 hk1 hS1
    replace hB : Wh G z y t.heap := hB
    rw [ht] at hB
    obtain ⟨hw, hv⟩ := hw
    replace hv : r9 = v := hv
    subst hv
    exact kk hw H1 locs1 hB hS1
/-! METHOD X11_restore -/
def m_X11_restore (x : Mem) : Option (Nat × Int32 × Mem) :=
  if (x 14 0 0 3) = 0 then (some (3, (0 : Int32), x)) else (bd_ (m_X1_copyFrom (0 : Fin 10) (2 : Fin 10) x) fun x4 => bd_ (m_X4_forget x4) fun x7 => some (0, (x7 2 ↑((0 : Fin 10)) 0 0), x7))
abbrev WS_X11_restore : List Cond := .code yX11_restore cX11_restore 1 (some .int) :: wsG
abbrev RM_X11_restore : Room := { frames := 6, cells := 3, slots := 18, locals := 90 }
set_option maxHeartbeats 4000000 in
set_option maxRecDepth 100000 in
theorem c_X11_restore (l : Launch) (hst : l.stackTraces = false) (G : Geo) (x y : Mem) (r : (Nat × Int32 × Mem)) (h : m_X11_restore x = some r) : vx_Met l yX11_restore WS_X11_restore RM_X11_restore (Px G x y [.ref (gA G 14 0 0)]) (QXi G r y) (XQ G r y) 3 18 (gF G) := by
  refine vx_ofW (cc := cX11_restore) (maxL := 1) (ret := (some .int)) (by decide) rfl ?_
  intro p e s m args below meth c s₁ B hml htab hv
  obtain ⟨rfl, hK, hXt, hZ, hA, hW⟩ := hv
  have hx := B.exec
  have hb := B.bytes
  have hr := B.returns
  have hts := atoms_spec (ws := WS_X11_restore) B.pre
  have htg : ∀ w ∈ wsG, w.before _ s = true := fun w h => hts w (List.mem_cons_of_mem _ h)
  have hown : s.vm.findClass RX11 = some m.cls := findClass_of_methodNamed B.named
  have hlocks := B.notSynchronized
  have hS : va_S (gF G) s.heap s.heap [] := va_S.rf
  have hl := lv_entry ([.ref (gA G 14 0 0)]) (n := 1) (Nat.le_of_ble_eq_true rfl)
  rw [lg_entry_eq]
  generalize (lg_sl ([.ref (gA G 14 0 0)]) ++ List.replicate (1 - (lg_sl ([.ref (gA G 14 0 0)])).length) Slot.unset).toArray = ls at hl ⊢
  have hl : lv_has ls 1 [(0, .ref (gA G 14 0 0))] := hl
  have hX := h
  unfold m_X11_restore at hX
  refine lv_aload_n hx hb dX11_restore_0 rfl (lv_at hl 0 rfl) ?_
  refine gf_14_3 hx hb htg hown hK hW q20 dX11_restore_1 ?_
  refine lv_if_ne (tgt := 18) hx hb dX11_restore_4 (by decide) (fun c1 => ?_) (fun c1 => ?_)
  · have hX := it_f hX c1
    refine lv_aload_n hx hb dX11_restore_18 rfl (lv_at hl 0 rfl) ?_
    refine gf_14_0 hx hb htg hown hK hW q17 dX11_restore_19 ?_
    refine lv_aload_n hx hb dX11_restore_22 rfl (lv_at hl 0 rfl) ?_
    refine gf_14_2 hx hb htg hown hK hW q19 dX11_restore_23 ?_
    obtain ⟨x4, h2, hX⟩ := bd_go hX
    refine k_X1_copyFrom hx hb hml hown htg hK hW hS h2 q943 hl.1 (Nat.le_of_ble_eq_true rfl) (Nat.le_of_ble_eq_true rfl) (Nat.le_of_ble_eq_true rfl) ⟨Nat.le_of_ble_eq_true rfl, Nat.le_of_ble_eq_true rfl⟩ dX11_restore_26 (fun H locs hW hS => ?_)
    refine lv_aload_n hx hb dX11_restore_29 rfl (lv_at hl 0 rfl) ?_
    refine gf_14_4 hx hb htg hown hK hW q24 dX11_restore_30 ?_
    obtain ⟨x7, h5, hX⟩ := bd_go hX
    refine k_X4_forget hx hb hml hown htg hK hW hS h5 q1247 hl.1 (Nat.le_of_ble_eq_true rfl) (Nat.le_of_ble_eq_true rfl) (Nat.le_of_ble_eq_true rfl) ⟨Nat.le_of_ble_eq_true rfl, Nat.le_of_ble_eq_true rfl⟩ dX11_restore_33 (fun H locs hW hS => ?_)
    refine lv_aload_n hx hb dX11_restore_36 rfl (lv_at hl 0 rfl) ?_
    refine gf_14_0 hx hb htg hown hK hW q17 dX11_restore_37 ?_
    refine gf_2_0 hx hb htg hown hK hW (0 : Fin 10) q1047 dX11_restore_40 ?_
    have hX := Option.some.inj hX
    subst hX
    exact vx_ret (W.widen (k := 3) (n := 18) (Nat.le_of_ble_eq_true rfl) (Nat.le_of_ble_eq_true rfl) (rtx_i hx hb hr hlocks hW hS dX11_restore_43))
  · have hX := it_t hX c1
    have hX := Option.some.inj hX
    subst hX
    exact thW_3 hx hb hst htg hown hXt hZ hW hS (hl.1.trans hml.symm) (List.mem_of_getElem? (i := 19) rfl) dX11_restore_7 dX11_restore_10 dX11_restore_11 dX11_restore_14 dX11_restore_17 htab (Nat.le_of_ble_eq_true rfl) (Nat.le_of_ble_eq_true rfl) (Nat.le_of_ble_eq_true rfl) (Nat.le_of_ble_eq_true rfl) hlocks (Nat.le_of_ble_eq_true rfl) (Nat.le_of_ble_eq_true rfl)
set_option maxHeartbeats 4000000 in
theorem kx_X11_restore {p : Program} {l : Launch} {e : Env} {R : Room} {s : State} {m : MethodId} {args : Array Value} {below : List Frame} {meth : Method} {c : Code} {H : Heap} {locs : List Loc} {cells slots : Nat} {Q : State → Prop} {cc : ByteArray} {pc nL idx : Nat} {own : String} {ls : Array Slot} {rest : List Value} {G : Geo} {x y : Mem} {cd : Nat} {v : Int32} {z : Mem} (hx : p.tables.exec = Jvm.exec) (hb : c.code = cc) (hml : c.maxLocals = nL) (hown : s.vm.findClass own = some m.cls) (htg : ∀ w ∈ wsG, w.before args s = true) (hst : l.stackTraces = false) (hXt : Xt s) (hZ : Zt G s s.heap) (hA : ∀ q, s.heap.size ≤ q → gF G q) (hK : Kt G s) (hW : Wh G x y H) (hS : va_S (gF G) s.heap H locs) (h : m_X11_restore x = some (cd, v, z)) (hlk : Cond.methodLink own idx yX11_restore ∈ wsG) (hn : ls.size = nL) (hr : (rest.map fun v => v.category).sum ≤ 8) (hR1 : 6 + 1 ≤ R.frames) (hR2 : 8 + (1 + 11) + 90 ≤ R.locals) (hf : cells + 3 ≤ R.cells ∧ slots + 18 ≤ R.slots) (hdg : decode cc pc = .ok (.invokevirtual idx, 3)) (kx : ¬ cd = 0 → ∀ (ce : Cell) (q9 : Addr) (H1 : Heap) (locs1 : List Loc), Wh G z y H1 → va_S (gF G) s.heap H1 locs1 → H1[q9]? = some ce → ce.vm = .none → s.vm.findClass (exN cd) = some ce.cls → vx_W p l e R s m args below meth c H1 locs1 (cells + 3) (slots + 18) Q (F0 m pc ls rest) q9) (kk : cd = 0 → ∀ (H1 : Heap) (locs1 : List Loc), Wh G z y H1 → va_S (gF G) s.heap H1 locs1 → W p l e R s m args below meth c H1 locs1 (cells + 3) (slots + 18) Q (F0 m (pc + 3) ls (.int v :: rest))) : W p l e R s m args below meth c H locs cells slots Q (F0 m pc ls (.ref (gA G 14 0 0) :: rest)) := by
  refine vx_calli (vx_runV (As := []) (rest := rest) ⟨hx, hb, hml, hown, htg⟩ (c_X11_restore l hst G x y (cd, v, z) h) (cwV 0 htg (gd_V hlk q1244 q1245 q2 q1246) rfl rfl rfl (by decide +kernel) ⟨hR1, hR2⟩) ⟨fun a U g mk q => ⟨q.1, q.2.1.calling, q.2.2.1.calling, q.2.2.2.1.calling, q.2.2.2.2.1, q.2.2.2.2.2⟩, rc_14 hK hW, fun U hU hW9 => ⟨rfl, hK.warm hW9, hXt.warm hW9, by rw [hU]; exact (hZ.kept hS).moved hW9.alike, by rw [hU]; exact fun q hq => hA q (Nat.le_trans hS.1 hq), by rw [hU]; exact hW⟩⟩ rfl rfl hn rfl (lv_room hr) hdg hf) hS (fun _ _ h9 => h9) (fun _ h9 => h9) (fun _ _ h9 => h9) ?_ ?_
  · intro E ce q9 u t H1 locs1 ht hvm hp hB hz hk hS1 e1 e2 e3
    obtain ⟨hc, hE, hB⟩ := hB
    replace hB : Wh G z y t.heap := hB
    rw [ht] at hB
    replace hE : E = exN cd := hE
    subst hE
    exact kx hc ce q9 H1 locs1 hB hS1 e1 e2 e3
  · intro r9 u t H1 locs1 ht hvm hw hB hz1 hk1 hS1
    replace hB : Wh G z y t.heap := hB
    rw [ht] at hB
    obtain ⟨hw, hv⟩ := hw
    replace hv : r9 = v := hv
    subst hv
    exact kk hw H1 locs1 hB hS1
/-! METHOD X11_setCapacity -/
def m_X11_setCapacity (p0 : Int32) (p1 : Int32) (x : Mem) : Option (Nat × Int32 × Mem) :=
  bx_ (m_X11_needBuffer p0 x) fun v4 x3 => bd_ (m_X11_isWithin p1 (1 : Int32) (4 : Int32)) fun r7 => if r7 = 0 then (some (2, (0 : Int32), x3)) else (bd_ (m_X1_storeAt (0 : Fin 10) p0) fun r10 => bd_ (m_X9_takenPlaces r10 x3) fun r12 => if r12 ≤ p1 then (bd_ (m_X4_keep (0 : Fin 10) x3) fun x16 => lt_ (x16 9 ↑r10.1 ↑r10.2 0) fun x4_17 => lt_ (up4 x16 9 ↑r10.1 ↑r10.2 0 p1) fun x18 => some (0, x4_17, x18)) else (some (3, (0 : Int32), x3)))
abbrev WS_X11_setCapacity : List Cond := .code yX11_setCapacity cX11_setCapacity 5 (some .int) :: wsG
abbrev RM_X11_setCapacity : Room := { frames := 7, cells := 3, slots := 18, locals := 110 }
set_option maxHeartbeats 4000000 in
set_option maxRecDepth 100000 in
theorem c_X11_setCapacity (l : Launch) (hst : l.stackTraces = false) (G : Geo) (x y : Mem) (p0 : Int32) (p1 : Int32) (r : (Nat × Int32 × Mem)) (h : m_X11_setCapacity p0 p1 x = some r) : vx_Met l yX11_setCapacity WS_X11_setCapacity RM_X11_setCapacity (Px G x y [.ref (gA G 14 0 0), .int p0, .int p1]) (QXi G r y) (XQ G r y) 3 18 (gF G) := by
  refine vx_ofW (cc := cX11_setCapacity) (maxL := 5) (ret := (some .int)) (by decide) rfl ?_
  intro p e s m args below meth c s₁ B hml htab hv
  obtain ⟨rfl, hK, hXt, hZ, hA, hW⟩ := hv
  have hx := B.exec
  have hb := B.bytes
  have hr := B.returns
  have hts := atoms_spec (ws := WS_X11_setCapacity) B.pre
  have htg : ∀ w ∈ wsG, w.before _ s = true := fun w h => hts w (List.mem_cons_of_mem _ h)
  have hown : s.vm.findClass RX11 = some m.cls := findClass_of_methodNamed B.named
  have hlocks := B.notSynchronized
  have hS : va_S (gF G) s.heap s.heap [] := va_S.rf
  have hl := lv_entry ([.ref (gA G 14 0 0), .int p0, .int p1]) (n := 5) (Nat.le_of_ble_eq_true rfl)
  rw [lg_entry_eq]
  generalize (lg_sl ([.ref (gA G 14 0 0), .int p0, .int p1]) ++ List.replicate (5 - (lg_sl ([.ref (gA G 14 0 0), .int p0, .int p1])).length) Slot.unset).toArray = ls at hl ⊢
  have hl : lv_has ls 5 [(0, .ref (gA G 14 0 0)), (1, .int p0), (2, .int p1)] := hl
  have hX := h
  unfold m_X11_setCapacity at hX
  refine lv_iload_n hx hb dX11_setCapacity_0 rfl (lv_at hl 1 rfl) ?_
  rcases bx_go hX with ⟨v4, x3, h1, hX⟩ | ⟨c5, v4, x3, c5h, h1, hX⟩
  rotate_left
  · subst hX; exact kx_X11_needBuffer hx hb hml hown htg hst hXt hZ hA hK hW hS h1 q419 hl.1 (Nat.le_of_ble_eq_true rfl) (Nat.le_of_ble_eq_true rfl) (Nat.le_of_ble_eq_true rfl) ⟨Nat.le_of_ble_eq_true rfl, Nat.le_of_ble_eq_true rfl⟩ dX11_setCapacity_1 (fun hc ce q9 H1 locs1 hW hS e1 e2 e3 => x_out c5h htab hlocks e1 e2 e3 hW hS (Nat.le_of_ble_eq_true rfl) (Nat.le_of_ble_eq_true rfl)) (fun h0 => absurd h0 c5h)
  refine kx_X11_needBuffer hx hb hml hown htg hst hXt hZ hA hK hW hS h1 q419 hl.1 (Nat.le_of_ble_eq_true rfl) (Nat.le_of_ble_eq_true rfl) (Nat.le_of_ble_eq_true rfl) ⟨Nat.le_of_ble_eq_true rfl, Nat.le_of_ble_eq_true rfl⟩ dX11_setCapacity_1 (fun hc => absurd rfl hc) (fun _ H locs hW hS => ?_)
  refine lv_iload_n hx hb dX11_setCapacity_4 rfl (lv_at hl 2 rfl) ?_
  refine lv_iconst (v := (1 : Int32)) hx hb dX11_setCapacity_5 (by decide) ?_
  refine lv_iconst (v := (4 : Int32)) hx hb dX11_setCapacity_6 (by decide) ?_
  obtain ⟨r7, h6, hX⟩ := bd_go hX
  refine k_X11_isWithin hx hb hml hown htg hK hW hS h6 q395 hl.1 (Nat.le_of_ble_eq_true rfl) (Nat.le_of_ble_eq_true rfl) (Nat.le_of_ble_eq_true rfl) ⟨Nat.le_of_ble_eq_true rfl, Nat.le_of_ble_eq_true rfl⟩ dX11_setCapacity_7 (fun H locs hW hS => ?_)
  refine lv_if_ne (tgt := 23) hx hb dX11_setCapacity_10 (by decide) (fun c8 => ?_) (fun c8 => ?_)
  · have hX := it_f hX c8
    refine lv_aload_n hx hb dX11_setCapacity_23 rfl (lv_at hl 0 rfl) ?_
    refine gf_14_0 hx hb htg hown hK hW q17 dX11_setCapacity_24 ?_
    refine lv_iload_n hx hb dX11_setCapacity_27 rfl (lv_at hl 1 rfl) ?_
    obtain ⟨r10, h9, hX⟩ := bd_go hX
    refine k_X1_storeAt hx hb hml hown htg hK hW hS h9 q422 hl.1 (Nat.le_of_ble_eq_true rfl) (Nat.le_of_ble_eq_true rfl) (Nat.le_of_ble_eq_true rfl) ⟨Nat.le_of_ble_eq_true rfl, Nat.le_of_ble_eq_true rfl⟩ dX11_setCapacity_28 (fun H locs hW hS => ?_)
    refine lv_astore_n (lv' := [(3, .ref (gA G 9 ↑r10.1 ↑r10.2)), (0, .ref (gA G 14 0 0)), (1, .int p0), (2, .int p1)]) hx hb dX11_setCapacity_31 rfl hl (by decide) rfl (fun ls hl => ?_)
    refine lv_aload_n hx hb dX11_setCapacity_32 rfl (lv_at hl 0 rfl) ?_
    obtain ⟨r12, h11, hX⟩ := bd_go hX
    refine k_X9_takenPlaces hx hb hml hown htg hK hW hS h11 q423 hl.1 (Nat.le_of_ble_eq_true rfl) (Nat.le_of_ble_eq_true rfl) (Nat.le_of_ble_eq_true rfl) ⟨Nat.le_of_ble_eq_true rfl, Nat.le_of_ble_eq_true rfl⟩ dX11_setCapacity_33 (fun H locs hW hS => ?_)
    refine lv_iload_n hx hb dX11_setCapacity_36 rfl (lv_at hl 3 rfl) ?_
    refine lv_icmp_le (tgt := 50) hx hb dX11_setCapacity_37 (by decide) (fun c13 => ?_) (fun c13 => ?_)
    · have hX := it_t hX c13
      refine lv_aload_n hx hb dX11_setCapacity_50 rfl (lv_at hl 1 rfl) ?_
      refine gf_14_4 hx hb htg hown hK hW q24 dX11_setCapacity_51 ?_
      refine lv_aload_n hx hb dX11_setCapacity_54 rfl (lv_at hl 1 rfl) ?_
      refine gf_14_0 hx hb htg hown hK hW q17 dX11_setCapacity_55 ?_
      obtain ⟨x16, h14, hX⟩ := bd_go hX
      refine k_X4_keep hx hb hml hown htg hK hW hS h14 q225 hl.1 (Nat.le_of_ble_eq_true rfl) (Nat.le_of_ble_eq_true rfl) (Nat.le_of_ble_eq_true rfl) ⟨Nat.le_of_ble_eq_true rfl, Nat.le_of_ble_eq_true rfl⟩ dX11_setCapacity_58 (fun H locs hW hS => ?_)
      refine lv_aload_n hx hb dX11_setCapacity_61 rfl (lv_at hl 0 rfl) ?_
      refine gf_9_0 hx hb htg hown hK hW r10 q418 dX11_setCapacity_62 ?_
      refine lv_topi (fun x4_17 e9 => ?_)
      have hX := lt_go hX e9
      refine lv_istore (lv' := [(4, .int x4_17), (3, .ref (gA G 9 ↑r10.1 ↑r10.2)), (0, .ref (gA G 14 0 0)), (1, .int p0), (2, .int p1)]) hx hb dX11_setCapacity_65 hl (by decide) rfl (fun ls hl => ?_)
      refine lv_aload_n hx hb dX11_setCapacity_67 rfl (lv_at hl 1 rfl) ?_
      refine lv_iload_n hx hb dX11_setCapacity_68 rfl (lv_at hl 4 rfl) ?_
      refine pf_9_0 hx hb htg hown hK hW hS r10 q418 dX11_setCapacity_69 (fun H locs hW hS => ?_)
      obtain ⟨x18, e9⟩ : ∃ w : Mem, w = (up4 x16 9 ↑r10.1 ↑r10.2 0 p1) := ⟨_, rfl⟩
      rw [← e9] at hW
      have hX := lt_go hX e9
      refine lv_iload hx hb dX11_setCapacity_72 (lv_at hl 0 rfl) ?_
      have hX := Option.some.inj hX
      subst hX
      exact vx_ret (W.widen (k := 3) (n := 18) (Nat.le_of_ble_eq_true rfl) (Nat.le_of_ble_eq_true rfl) (rtx_i hx hb hr hlocks hW hS dX11_setCapacity_74))
    · have hX := it_f hX c13
      have hX := Option.some.inj hX
      subst hX
      exact thS_3 hx hb hst htg hown hXt hZ hW hS (hl.1.trans hml.symm) (List.mem_of_getElem? (i := 1) rfl) dX11_setCapacity_40 dX11_setCapacity_43 dX11_setCapacity_44 dX11_setCapacity_46 dX11_setCapacity_49 htab (Nat.le_of_ble_eq_true rfl) (Nat.le_of_ble_eq_true rfl) (Nat.le_of_ble_eq_true rfl) (Nat.le_of_ble_eq_true rfl) hlocks (Nat.le_of_ble_eq_true rfl) (Nat.le_of_ble_eq_true rfl)
  · have hX := it_t hX c8
    have hX := Option.some.inj hX
    subst hX
    exact thS_2 hx hb hst htg hown hXt hZ hW hS (hl.1.trans hml.symm) (List.mem_of_getElem? (i := 0) rfl) dX11_setCapacity_13 dX11_setCapacity_16 dX11_setCapacity_17 dX11_setCapacity_19 dX11_setCapacity_22 htab (Nat.le_of_ble_eq_true rfl) (Nat.le_of_ble_eq_true rfl) (Nat.le_of_ble_eq_true rfl) (Nat.le_of_ble_eq_true rfl) hlocks (Nat.le_of_ble_eq_true rfl) (Nat.le_of_ble_eq_true rfl)
set_option maxHeartbeats 4000000 in
theorem kx_X11_setCapacity {p : Program} {l : Launch} {e : Env} {R : Room} {s : State} {m : MethodId} {args : Array Value} {below : List Frame} {meth : Method} {c : Code} {H : Heap} {locs : List Loc} {cells slots : Nat} {Q : State → Prop} {cc : ByteArray} {pc nL idx : Nat} {own : String} {ls : Array Slot} {rest : List Value} {G : Geo} {x y : Mem} {p0 : Int32} {p1 : Int32} {cd : Nat} {v : Int32} {z : Mem} (hx : p.tables.exec = Jvm.exec) (hb : c.code = cc) (hml : c.maxLocals = nL) (hown : s.vm.findClass own = some m.cls) (htg : ∀ w ∈ wsG, w.before args s = true) (hst : l.stackTraces = false) (hXt : Xt s) (hZ : Zt G s s.heap) (hA : ∀ q, s.heap.size ≤ q → gF G q) (hK : Kt G s) (hW : Wh G x y H) (hS : va_S (gF G) s.heap H locs) (h : m_X11_setCapacity p0 p1 x = some (cd, v, z)) (hlk : Cond.methodLink own idx yX11_setCapacity ∈ wsG) (hn : ls.size = nL) (hr : (rest.map fun v => v.category).sum ≤ 8) (hR1 : 7 + 1 ≤ R.frames) (hR2 : 8 + (5 + 11) + 110 ≤ R.locals) (hf : cells + 3 ≤ R.cells ∧ slots + 18 ≤ R.slots) (hdg : decode cc pc = .ok (.invokevirtual idx, 3)) (kx : ¬ cd = 0 → ∀ (ce : Cell) (q9 : Addr) (H1 : Heap) (locs1 : List Loc), Wh G z y H1 → va_S (gF G) s.heap H1 locs1 → H1[q9]? = some ce → ce.vm = .none → s.vm.findClass (exN cd) = some ce.cls → vx_W p l e R s m args below meth c H1 locs1 (cells + 3) (slots + 18) Q (F0 m pc ls rest) q9) (kk : cd = 0 → ∀ (H1 : Heap) (locs1 : List Loc), Wh G z y H1 → va_S (gF G) s.heap H1 locs1 → W p l e R s m args below meth c H1 locs1 (cells + 3) (slots + 18) Q (F0 m (pc + 3) ls (.int v :: rest))) : W p l e R s m args below meth c H locs cells slots Q (F0 m pc ls (.int p1 :: .int p0 :: .ref (gA G 14 0 0) :: rest)) := by
  refine vx_calli (vx_runV (As := [.int p0, .int p1]) (rest := rest) ⟨hx, hb, hml, hown, htg⟩ (c_X11_setCapacity l hst G x y p0 p1 (cd, v, z) h) (cwV 2 htg (gd_V hlk q415 q416 q2 q417) rfl rfl rfl (by decide +kernel) ⟨hR1, hR2⟩) ⟨fun a U g mk q => ⟨q.1, q.2.1.calling, q.2.2.1.calling, q.2.2.2.1.calling, q.2.2.2.2.1, q.2.2.2.2.2⟩, rc_14 hK hW, fun U hU hW9 => ⟨rfl, hK.warm hW9, hXt.warm hW9, by rw [hU]; exact (hZ.kept hS).moved hW9.alike, by rw [hU]; exact fun q hq => hA q (Nat.le_trans hS.1 hq), by rw [hU]; exact hW⟩⟩ rfl rfl hn rfl (lv_room hr) hdg hf) hS (fun _ _ h9 => h9) (fun _ h9 => h9) (fun _ _ h9 => h9) ?_ ?_
  · intro E ce q9 u t H1 locs1 ht hvm hp hB hz hk hS1 e1 e2 e3
    obtain ⟨hc, hE, hB⟩ := hB
    replace hB : Wh G z y t.heap := hB
    rw [ht] at hB
    replace hE : E = exN cd := hE
    subst hE
    exact kx hc ce q9 H1 locs1 hB hS1 e1 e2 e3
  · intro r9 u t H1 locs1 ht hvm hw hB hz1 hk1 hS1
    replace hB : Wh G z y t.heap := hB
    rw [ht] at hB
    obtain ⟨hw, hv⟩ := hw
    replace hv : r9 = v := hv
    subst hv
    exact kk hw H1 locs1 hB hS1
/-! METHOD X11_setInterlock -/
def m_X11_setInterlock (p0 : Int32) (p1 : Int32) (p2 : Int32) (x : Mem) : Option (Nat × Int32 × Mem) :=
  bd_ (m_X1_interlockFault (0 : Fin 10) p0 p1 p2 x) fun r2 => bx_ (m_X11_throwFor r2 x) fun v6 x5 => bd_ (m_X4_keep (0 : Fin 10) x5) fun x10 => bd2_ (m_X10_putInterlock ((0 : Fin 10)) p0 p1 p2 x10) fun r12 x13 => gb_ r12 (some (0, r12, x13))
abbrev WS_X11_setInterlock : List Cond := .code yX11_setInterlock cX11_setInterlock 4 (some .boolean) :: wsG
abbrev RM_X11_setInterlock : Room := { frames := 7, cells := 3, slots := 18, locals := 110 }
set_option maxHeartbeats 4000000 in
set_option maxRecDepth 100000 in
theorem c_X11_setInterlock (l : Launch) (hst : l.stackTraces = false) (G : Geo) (x y : Mem) (p0 : Int32) (p1 : Int32) (p2 : Int32) (r : (Nat × Int32 × Mem)) (h : m_X11_setInterlock p0 p1 p2 x = some r) : vx_Met l yX11_setInterlock WS_X11_setInterlock RM_X11_setInterlock (Px G x y [.ref (gA G 14 0 0), .int p0, .int p1, .int p2]) (QXi G r y) (XQ G r y) 3 18 (gF G) := by
  refine vx_ofW (cc := cX11_setInterlock) (maxL := 4) (ret := (some .boolean)) (by decide) rfl ?_
  intro p e s m args below meth c s₁ B hml htab hv
  obtain ⟨rfl, hK, hXt, hZ, hA, hW⟩ := hv
  have hx := B.exec
  have hb := B.bytes
  have hr := B.returns
  have hts := atoms_spec (ws := WS_X11_setInterlock) B.pre
  have htg : ∀ w ∈ wsG, w.before _ s = true := fun w h => hts w (List.mem_cons_of_mem _ h)
  have hown : s.vm.findClass RX11 = some m.cls := findClass_of_methodNamed B.named
  have hlocks := B.notSynchronized
  have hS : va_S (gF G) s.heap s.heap [] := va_S.rf
  have hl := lv_entry ([.ref (gA G 14 0 0), .int p0, .int p1, .int p2]) (n := 4) (Nat.le_of_ble_eq_true rfl)
  rw [lg_entry_eq]
  generalize (lg_sl ([.ref (gA G 14 0 0), .int p0, .int p1, .int p2]) ++ List.replicate (4 - (lg_sl ([.ref (gA G 14 0 0), .int p0, .int p1, .int p2])).length) Slot.unset).toArray = ls at hl ⊢
  have hl : lv_has ls 4 [(0, .ref (gA G 14 0 0)), (1, .int p0), (2, .int p1), (3, .int p2)] := hl
  have hX := h
  unfold m_X11_setInterlock at hX
  refine lv_aload_n hx hb dX11_setInterlock_0 rfl (lv_at hl 0 rfl) ?_
  refine gf_14_0 hx hb htg hown hK hW q17 dX11_setInterlock_1 ?_
  refine lv_iload_n hx hb dX11_setInterlock_4 rfl (lv_at hl 1 rfl) ?_
  refine lv_iload_n hx hb dX11_setInterlock_5 rfl (lv_at hl 2 rfl) ?_
  refine lv_iload_n hx hb dX11_setInterlock_6 rfl (lv_at hl 3 rfl) ?_
  obtain ⟨r2, h1, hX⟩ := bd_go hX
  refine k_X1_interlockFault hx hb hml hown htg hK hW hS h1 q191 hl.1 (Nat.le_of_ble_eq_true rfl) (Nat.le_of_ble_eq_true rfl) (Nat.le_of_ble_eq_true rfl) ⟨Nat.le_of_ble_eq_true rfl, Nat.le_of_ble_eq_true rfl⟩ dX11_setInterlock_7 (fun H locs hW hS => ?_)
  rcases bx_go hX with ⟨v6, x5, h3, hX⟩ | ⟨c7, v6, x5, c7h, h3, hX⟩
  rotate_left
  · subst hX; exact kx_X11_throwFor hx hb hml hown htg hst hXt hZ hA hK hW hS h3 q214 hl.1 (Nat.le_of_ble_eq_true rfl) (Nat.le_of_ble_eq_true rfl) (Nat.le_of_ble_eq_true rfl) ⟨Nat.le_of_ble_eq_true rfl, Nat.le_of_ble_eq_true rfl⟩ dX11_setInterlock_10 (fun hc ce q9 H1 locs1 hW hS e1 e2 e3 => x_out c7h htab hlocks e1 e2 e3 hW hS (Nat.le_of_ble_eq_true rfl) (Nat.le_of_ble_eq_true rfl)) (fun h0 => absurd h0 c7h)
  refine kx_X11_throwFor hx hb hml hown htg hst hXt hZ hA hK hW hS h3 q214 hl.1 (Nat.le_of_ble_eq_true rfl) (Nat.le_of_ble_eq_true rfl) (Nat.le_of_ble_eq_true rfl) ⟨Nat.le_of_ble_eq_true rfl, Nat.le_of_ble_eq_true rfl⟩ dX11_setInterlock_10 (fun hc => absurd rfl hc) (fun _ H locs hW hS => ?_)
  refine lv_aload_n hx hb dX11_setInterlock_13 rfl (lv_at hl 0 rfl) ?_
  refine gf_14_4 hx hb htg hown hK hW q24 dX11_setInterlock_14 ?_
  refine lv_aload_n hx hb dX11_setInterlock_17 rfl (lv_at hl 0 rfl) ?_
  refine gf_14_0 hx hb htg hown hK hW q17 dX11_setInterlock_18 ?_
  obtain ⟨x10, h8, hX⟩ := bd_go hX
  refine k_X4_keep hx hb hml hown htg hK hW hS h8 q225 hl.1 (Nat.le_of_ble_eq_true rfl) (Nat.le_of_ble_eq_true rfl) (Nat.le_of_ble_eq_true rfl) ⟨Nat.le_of_ble_eq_true rfl, Nat.le_of_ble_eq_true rfl⟩ dX11_setInterlock_21 (fun H locs hW hS => ?_)
  refine lv_aload_n hx hb dX11_setInterlock_24 rfl (lv_at hl 0 rfl) ?_
  refine gf_14_0 hx hb htg hown hK hW q17 dX11_setInterlock_25 ?_
  refine gf_2_7 hx hb htg hown hK hW (0 : Fin 10) q190 dX11_setInterlock_28 ?_
  refine lv_iload_n hx hb dX11_setInterlock_31 rfl (lv_at hl 1 rfl) ?_
  refine lv_iload_n hx hb dX11_setInterlock_32 rfl (lv_at hl 2 rfl) ?_
  refine lv_iload_n hx hb dX11_setInterlock_33 rfl (lv_at hl 3 rfl) ?_
  obtain ⟨r12, x13, h11, hX⟩ := bd2_go hX
  refine k_X10_putInterlock hx hb hml hown htg hK hW hS h11 q298 hl.1 (Nat.le_of_ble_eq_true rfl) (Nat.le_of_ble_eq_true rfl) (Nat.le_of_ble_eq_true rfl) ⟨Nat.le_of_ble_eq_true rfl, Nat.le_of_ble_eq_true rfl⟩ dX11_setInterlock_34 (fun H locs hW hS => ?_)
  obtain ⟨g9, hX⟩ := gb_go hX
  have hX := Option.some.inj hX
  subst hX
  exact vx_ret (W.widen (k := 3) (n := 18) (Nat.le_of_ble_eq_true rfl) (Nat.le_of_ble_eq_true rfl) (rtx_z hx hb hr hlocks hW hS (isB_n g9) dX11_setInterlock_37))
set_option maxHeartbeats 4000000 in
theorem kx_X11_setInterlock {p : Program} {l : Launch} {e : Env} {R : Room} {s : State} {m : MethodId} {args : Array Value} {below : List Frame} {meth : Method} {c : Code} {H : Heap} {locs : List Loc} {cells slots : Nat} {Q : State → Prop} {cc : ByteArray} {pc nL idx : Nat} {own : String} {ls : Array Slot} {rest : List Value} {G : Geo} {x y : Mem} {p0 : Int32} {p1 : Int32} {p2 : Int32} {cd : Nat} {v : Int32} {z : Mem} (hx : p.tables.exec = Jvm.exec) (hb : c.code = cc) (hml : c.maxLocals = nL) (hown : s.vm.findClass own = some m.cls) (htg : ∀ w ∈ wsG, w.before args s = true) (hst : l.stackTraces = false) (hXt : Xt s) (hZ : Zt G s s.heap) (hA : ∀ q, s.heap.size ≤ q → gF G q) (hK : Kt G s) (hW : Wh G x y H) (hS : va_S (gF G) s.heap H locs) (h : m_X11_setInterlock p0 p1 p2 x = some (cd, v, z)) (hlk : Cond.methodLink own idx yX11_setInterlock ∈ wsG) (hn : ls.size = nL) (hr : (rest.map fun v => v.category).sum ≤ 8) (hR1 : 7 + 1 ≤ R.frames) (hR2 : 8 + (4 + 11) + 110 ≤ R.locals) (hf : cells + 3 ≤ R.cells ∧ slots + 18 ≤ R.slots) (hdg : decode cc pc = .ok (.invokevirtual idx, 3)) (kx : ¬ cd = 0 → ∀ (ce : Cell) (q9 : Addr) (H1 : Heap) (locs1 : List Loc), Wh G z y H1 → va_S (gF G) s.heap H1 locs1 → H1[q9]? = some ce → ce.vm = .none → s.vm.findClass (exN cd) = some ce.cls → vx_W p l e R s m args below meth c H1 locs1 (cells + 3) (slots + 18) Q (F0 m pc ls rest) q9) (kk : cd = 0 → ∀ (H1 : Heap) (locs1 : List Loc), Wh G z y H1 → va_S (gF G) s.heap H1 locs1 → W p l e R s m args below meth c H1 locs1 (cells + 3) (slots + 18) Q (F0 m (pc + 3) ls (.int v :: rest))) : W p l e R s m args below meth c H locs cells slots Q (F0 m pc ls (.int p2 :: .int p1 :: .int p0 :: .ref (gA G 14 0 0) :: rest)) := by
  refine vx_calli (vx_runV (As := [.int p0, .int p1, .int p2]) (rest := rest) ⟨hx, hb, hml, hown, htg⟩ (c_X11_setInterlock l hst G x y p0 p1 p2 (cd, v, z) h) (cwV 3 htg (gd_V hlk q187 q188 q2 q189) rfl rfl rfl (by decide +kernel) ⟨hR1, hR2⟩) ⟨fun a U g mk q => ⟨q.1, q.2.1.calling, q.2.2.1.calling, q.2.2.2.1.calling, q.2.2.2.2.1, q.2.2.2.2.2⟩, rc_14 hK hW, fun U hU hW9 => ⟨rfl, hK.warm hW9, hXt.warm hW9, by rw [hU]; exact (hZ.kept hS).moved hW9.alike, by rw [hU]; exact fun q hq => hA q (Nat.le_trans hS.1 hq), by rw [hU]; exact hW⟩⟩ rfl rfl hn rfl (lv_room hr) hdg hf) hS (fun _ _ h9 => h9) (fun _ h9 => h9) (fun _ _ h9 => h9) ?_ ?_
  · intro E ce q9 u t H1 locs1 ht hvm hp hB hz hk hS1 e1 e2 e3
    obtain ⟨hc, hE, hB⟩ := hB
    replace hB : Wh G z y t.heap := hB
    rw [ht] at hB
    replace hE : E = exN cd := hE
    subst hE
    exact kx hc ce q9 H1 locs1 hB hS1 e1 e2 e3
  · intro r9 u t H1 locs1 ht hvm hw hB hz1 hk1 hS1
    replace hB : Wh G z y t.heap := hB
    rw [ht] at hB
    obtain ⟨hw, hv⟩ := hw
    replace hv : r9 = v := hv
    subst hv
    exact kk hw H1 locs1 hB hS1
/-! METHOD X11_setReach -/
def m_X11_setReach (p0 : Int32) (p1 : Int32) (x : Mem) : Option (Nat × Int32 × Mem) :=
  bx_ (m_X11_needArm p0 x) fun v4 x3 => bx_ (m_X11_need p1 (255 : Int32) x3) fun v9 x8 => bd_ (m_X4_keep (0 : Fin 10) x8) fun x13 => bd_ (m_X1_armAt (0 : Fin 10) p0) fun r15 => lt_ (x13 0 ↑r15.1 ↑r15.2 1) fun x4_16 => lt_ (up4 x13 0 ↑r15.1 ↑r15.2 1 p1) fun x17 => some (0, x4_16, x17)
abbrev WS_X11_setReach : List Cond := .code yX11_setReach cX11_setReach 5 (some .int) :: wsG
abbrev RM_X11_setReach : Room := { frames := 7, cells := 3, slots := 18, locals := 111 }
set_option maxHeartbeats 4000000 in
set_option maxRecDepth 100000 in
theorem c_X11_setReach (l : Launch) (hst : l.stackTraces = false) (G : Geo) (x y : Mem) (p0 : Int32) (p1 : Int32) (r : (Nat × Int32 × Mem)) (h : m_X11_setReach p0 p1 x = some r) : vx_Met l yX11_setReach WS_X11_setReach RM_X11_setReach (Px G x y [.ref (gA G 14 0 0), .int p0, .int p1]) (QXi G r y) (XQ G r y) 3 18 (gF G) := by
  refine vx_ofW (cc := cX11_setReach) (maxL := 5) (ret := (some .int)) (by decide) rfl ?_
  intro p e s m args below meth c s₁ B hml htab hv
  obtain ⟨rfl, hK, hXt, hZ, hA, hW⟩ := hv
  have hx := B.exec
  have hb := B.bytes
  have hr := B.returns
  have hts := atoms_spec (ws := WS_X11_setReach) B.pre
  have htg : ∀ w ∈ wsG, w.before _ s = true := fun w h => hts w (List.mem_cons_of_mem _ h)
  have hown : s.vm.findClass RX11 = some m.cls := findClass_of_methodNamed B.named
  have hlocks := B.notSynchronized
  have hS : va_S (gF G) s.heap s.heap [] := va_S.rf
  have hl := lv_entry ([.ref (gA G 14 0 0), .int p0, .int p1]) (n := 5) (Nat.le_of_ble_eq_true rfl)
  rw [lg_entry_eq]
  generalize (lg_sl ([.ref (gA G 14 0 0), .int p0, .int p1]) ++ List.replicate (5 - (lg_sl ([.ref (gA G 14 0 0), .int p0, .int p1])).length) Slot.unset).toArray = ls at hl ⊢
  have hl : lv_has ls 5 [(0, .ref (gA G 14 0 0)), (1, .int p0), (2, .int p1)] := hl
  have hX := h
  unfold m_X11_setReach at hX
  refine lv_iload_n hx hb dX11_setReach_0 rfl (lv_at hl 1 rfl) ?_
  rcases bx_go hX with ⟨v4, x3, h1, hX⟩ | ⟨c5, v4, x3, c5h, h1, hX⟩
  rotate_left
  · subst hX; exact kx_X11_needArm hx hb hml hown htg hst hXt hZ hA hK hW hS h1 q392 hl.1 (Nat.le_of_ble_eq_true rfl) (Nat.le_of_ble_eq_true rfl) (Nat.le_of_ble_eq_true rfl) ⟨Nat.le_of_ble_eq_true rfl, Nat.le_of_ble_eq_true rfl⟩ dX11_setReach_1 (fun hc ce q9 H1 locs1 hW hS e1 e2 e3 => x_out c5h htab hlocks e1 e2 e3 hW hS (Nat.le_of_ble_eq_true rfl) (Nat.le_of_ble_eq_true rfl)) (fun h0 => absurd h0 c5h)
  refine kx_X11_needArm hx hb hml hown htg hst hXt hZ hA hK hW hS h1 q392 hl.1 (Nat.le_of_ble_eq_true rfl) (Nat.le_of_ble_eq_true rfl) (Nat.le_of_ble_eq_true rfl) ⟨Nat.le_of_ble_eq_true rfl, Nat.le_of_ble_eq_true rfl⟩ dX11_setReach_1 (fun hc => absurd rfl hc) (fun _ H locs hW hS => ?_)
  refine lv_iload_n hx hb dX11_setReach_4 rfl (lv_at hl 2 rfl) ?_
  refine lv_sipush (v := (255 : Int32)) hx hb dX11_setReach_5 (by decide) ?_
  rcases bx_go hX with ⟨v9, x8, h6, hX⟩ | ⟨c10, v9, x8, c10h, h6, hX⟩
  rotate_left
  · subst hX; exact kx_X11_need hx hb hml hown htg hst hXt hZ hA hK hW hS h6 q396 hl.1 (Nat.le_of_ble_eq_true rfl) (Nat.le_of_ble_eq_true rfl) (Nat.le_of_ble_eq_true rfl) ⟨Nat.le_of_ble_eq_true rfl, Nat.le_of_ble_eq_true rfl⟩ dX11_setReach_8 (fun hc ce q9 H1 locs1 hW hS e1 e2 e3 => x_out c10h htab hlocks e1 e2 e3 hW hS (Nat.le_of_ble_eq_true rfl) (Nat.le_of_ble_eq_true rfl)) (fun h0 => absurd h0 c10h)
  refine kx_X11_need hx hb hml hown htg hst hXt hZ hA hK hW hS h6 q396 hl.1 (Nat.le_of_ble_eq_true rfl) (Nat.le_of_ble_eq_true rfl) (Nat.le_of_ble_eq_true rfl) ⟨Nat.le_of_ble_eq_true rfl, Nat.le_of_ble_eq_true rfl⟩ dX11_setReach_8 (fun hc => absurd rfl hc) (fun _ H locs hW hS => ?_)
  refine lv_aload_n hx hb dX11_setReach_11 rfl (lv_at hl 0 rfl) ?_
  refine gf_14_4 hx hb htg hown hK hW q24 dX11_setReach_12 ?_
  refine lv_aload_n hx hb dX11_setReach_15 rfl (lv_at hl 0 rfl) ?_
  refine gf_14_0 hx hb htg hown hK hW q17 dX11_setReach_16 ?_
  obtain ⟨x13, h11, hX⟩ := bd_go hX
  refine k_X4_keep hx hb hml hown htg hK hW hS h11 q225 hl.1 (Nat.le_of_ble_eq_true rfl) (Nat.le_of_ble_eq_true rfl) (Nat.le_of_ble_eq_true rfl) ⟨Nat.le_of_ble_eq_true rfl, Nat.le_of_ble_eq_true rfl⟩ dX11_setReach_19 (fun H locs hW hS => ?_)
  refine lv_aload_n hx hb dX11_setReach_22 rfl (lv_at hl 0 rfl) ?_
  refine gf_14_0 hx hb htg hown hK hW q17 dX11_setReach_23 ?_
  refine lv_iload_n hx hb dX11_setReach_26 rfl (lv_at hl 1 rfl) ?_
  obtain ⟨r15, h14, hX⟩ := bd_go hX
  refine k_X1_armAt hx hb hml hown htg hK hW hS h14 q399 hl.1 (Nat.le_of_ble_eq_true rfl) (Nat.le_of_ble_eq_true rfl) (Nat.le_of_ble_eq_true rfl) ⟨Nat.le_of_ble_eq_true rfl, Nat.le_of_ble_eq_true rfl⟩ dX11_setReach_27 (fun H locs hW hS => ?_)
  refine lv_astore_n (lv' := [(3, .ref (gA G 0 ↑r15.1 ↑r15.2)), (0, .ref (gA G 14 0 0)), (1, .int p0), (2, .int p1)]) hx hb dX11_setReach_30 rfl hl (by decide) rfl (fun ls hl => ?_)
  refine lv_aload_n hx hb dX11_setReach_31 rfl (lv_at hl 0 rfl) ?_
  refine gf_0_1 hx hb htg hown hK hW r15 q391 dX11_setReach_32 ?_
  refine lv_topi (fun x4_16 e9 => ?_)
  have hX := lt_go hX e9
  refine lv_istore (lv' := [(4, .int x4_16), (3, .ref (gA G 0 ↑r15.1 ↑r15.2)), (0, .ref (gA G 14 0 0)), (1, .int p0), (2, .int p1)]) hx hb dX11_setReach_35 hl (by decide) rfl (fun ls hl => ?_)
  refine lv_aload_n hx hb dX11_setReach_37 rfl (lv_at hl 1 rfl) ?_
  refine lv_iload_n hx hb dX11_setReach_38 rfl (lv_at hl 4 rfl) ?_
  refine pf_0_1 hx hb htg hown hK hW hS r15 q391 dX11_setReach_39 (fun H locs hW hS => ?_)
  obtain ⟨x17, e9⟩ : ∃ w : Mem, w = (up4 x13 0 ↑r15.1 ↑r15.2 1 p1) := ⟨_, rfl⟩
  rw [← e9] at hW
  have hX := lt_go hX e9
  refine lv_iload hx hb dX11_setReach_42 (lv_at hl 0 rfl) ?_
  have hX := Option.some.inj hX
  subst hX
  exact vx_ret (W.widen (k := 3) (n := 18) (Nat.le_of_ble_eq_true rfl) (Nat.le_of_ble_eq_true rfl) (rtx_i hx hb hr hlocks hW hS dX11_setReach_44))
set_option maxHeartbeats 4000000 in
theorem kx_X11_setReach {p : Program} {l : Launch} {e : Env} {R : Room} {s : State} {m : MethodId} {args : Array Value} {below : List Frame} {meth : Method} {c : Code} {H : Heap} {locs : List Loc} {cells slots : Nat} {Q : State → Prop} {cc : ByteArray} {pc nL idx : Nat} {own : String} {ls : Array Slot} {rest : List Value} {G : Geo} {x y : Mem} {p0 : Int32} {p1 : Int32} {cd : Nat} {v : Int32} {z : Mem} (hx : p.tables.exec = Jvm.exec) (hb : c.code = cc) (hml : c.maxLocals = nL) (hown : s.vm.findClass own = some m.cls) (htg : ∀ w ∈ wsG, w.before args s = true) (hst : l.stackTraces = false) (hXt : Xt s) (hZ : Zt G s s.heap) (hA : ∀ q, s.heap.size ≤ q → gF G q) (hK : Kt G s) (hW : Wh G x y H) (hS : va_S (gF G) s.heap H locs) (h : m_X11_setReach p0 p1 x = some (cd, v, z)) (hlk : Cond.methodLink own idx yX11_setReach ∈ wsG) (hn : ls.size = nL) (hr : (rest.map fun v => v.category).sum ≤ 8) (hR1 : 7 + 1 ≤ R.frames) (hR2 : 8 + (5 + 11) + 111 ≤ R.locals) (hf : cells + 3 ≤ R.cells ∧ slots + 18 ≤ R.slots) (hdg : decode cc pc = .ok (.invokevirtual idx, 3)) (kx : ¬ cd = 0 → ∀ (ce : Cell) (q9 : Addr) (H1 : Heap) (locs1 : List Loc), Wh G z y H1 → va_S (gF G) s.heap H1 locs1 → H1[q9]? = some ce → ce.vm = .none → s.vm.findClass (exN cd) = some ce.cls → vx_W p l e R s m args below meth c H1 locs1 (cells + 3) (slots + 18) Q (F0 m pc ls rest) q9) (kk : cd = 0 → ∀ (H1 : Heap) (locs1 : List Loc), Wh G z y H1 → va_S (gF G) s.heap H1 locs1 → W p l e R s m args below meth c H1 locs1 (cells + 3) (slots + 18) Q (F0 m (pc + 3) ls (.int v :: rest))) : W p l e R s m args below meth c H locs cells slots Q (F0 m pc ls (.int p1 :: .int p0 :: .ref (gA G 14 0 0) :: rest)) := by
  refine vx_calli (vx_runV (As := [.int p0, .int p1]) (rest := rest) ⟨hx, hb, hml, hown, htg⟩ (c_X11_setReach l hst G x y p0 p1 (cd, v, z) h) (cwV 2 htg (gd_V hlk q388 q389 q2 q390) rfl rfl rfl (by decide +kernel) ⟨hR1, hR2⟩) ⟨fun a U g mk q => ⟨q.1, q.2.1.calling, q.2.2.1.calling, q.2.2.2.1.calling, q.2.2.2.2.1, q.2.2.2.2.2⟩, rc_14 hK hW, fun U hU hW9 => ⟨rfl, hK.warm hW9, hXt.warm hW9, by rw [hU]; exact (hZ.kept hS).moved hW9.alike, by rw [hU]; exact fun q hq => hA q (Nat.le_trans hS.1 hq), by rw [hU]; exact hW⟩⟩ rfl rfl hn rfl (lv_room hr) hdg hf) hS (fun _ _ h9 => h9) (fun _ h9 => h9) (fun _ _ h9 => h9) ?_ ?_
  · intro E ce q9 u t H1 locs1 ht hvm hp hB hz hk hS1 e1 e2 e3
    obtain ⟨hc, hE, hB⟩ := hB
    replace hB : Wh G z y t.heap := hB
    rw [ht] at hB
    replace hE : E = exN cd := hE
    subst hE
    exact kx hc ce q9 H1 locs1 hB hS1 e1 e2 e3
  · intro r9 u t H1 locs1 ht hvm hw hB hz1 hk1 hS1
    replace hB : Wh G z y t.heap := hB
    rw [ht] at hB
    obtain ⟨hw, hv⟩ := hw
    replace hv : r9 = v := hv
    subst hv
    exact kk hw H1 locs1 hB hS1
/-! METHOD X11_supply -/
def m_X11_supply (p0 : Int32) (x : Mem) : Option (Nat × Int32 × Mem) :=
  bx_ (m_X11_needBuffer p0 x) fun v4 x3 => bd_ (m_X1_storeAt (0 : Fin 10) p0) fun r7 => bd_ (m_X9_hasRoom r7 x3) fun r9 => if r9 = 0 then (some (3, (0 : Int32), x3)) else (bd_ (m_X4_keep (0 : Fin 10) x3) fun x13 => bd2_ (m_X1_makePart (0 : Fin 10) x13) fun r15 x16 => lt_ r15 fun x3_17 => bd_ (m_X9_putLast r7 x3_17 x16) fun x20 => some (0, x3_17, x20))
abbrev WS_X11_supply : List Cond := .code yX11_supply cX11_supply 4 (some .int) :: wsG
abbrev RM_X11_supply : Room := { frames := 7, cells := 3, slots := 18, locals := 110 }
set_option maxHeartbeats 4000000 in
set_option maxRecDepth 100000 in
theorem c_X11_supply (l : Launch) (hst : l.stackTraces = false) (G : Geo) (x y : Mem) (p0 : Int32) (r : (Nat × Int32 × Mem)) (h : m_X11_supply p0 x = some r) : vx_Met l yX11_supply WS_X11_supply RM_X11_supply (Px G x y [.ref (gA G 14 0 0), .int p0]) (QXi G r y) (XQ G r y) 3 18 (gF G) := by
  refine vx_ofW (cc := cX11_supply) (maxL := 4) (ret := (some .int)) (by decide) rfl ?_
  intro p e s m args below meth c s₁ B hml htab hv
  obtain ⟨rfl, hK, hXt, hZ, hA, hW⟩ := hv
  have hx := B.exec
  have hb := B.bytes
  have hr := B.returns
  have hts := atoms_spec (ws := WS_X11_supply) B.pre
  have htg : ∀ w ∈ wsG, w.before _ s = true := fun w h => hts w (List.mem_cons_of_mem _ h)
  have hown : s.vm.findClass RX11 = some m.cls := findClass_of_methodNamed B.named
  have hlocks := B.notSynchronized
  have hS : va_S (gF G) s.heap s.heap [] := va_S.rf
  have hl := lv_entry ([.ref (gA G 14 0 0), .int p0]) (n := 4) (Nat.le_of_ble_eq_true rfl)
  rw [lg_entry_eq]
  generalize (lg_sl ([.ref (gA G 14 0 0), .int p0]) ++ List.replicate (4 - (lg_sl ([.ref (gA G 14 0 0), .int p0])).length) Slot.unset).toArray = ls at hl ⊢
  have hl : lv_has ls 4 [(0, .ref (gA G 14 0 0)), (1, .int p0)] := hl
  have hX := h
  unfold m_X11_supply at hX
  refine lv_iload_n hx hb dX11_supply_0 rfl (lv_at hl 1 rfl) ?_
  rcases bx_go hX with ⟨v4, x3, h1, hX⟩ | ⟨c5, v4, x3, c5h, h1, hX⟩
  rotate_left
  · subst hX; exact kx_X11_needBuffer hx hb hml hown htg hst hXt hZ hA hK hW hS h1 q419 hl.1 (Nat.le_of_ble_eq_true rfl) (Nat.le_of_ble_eq_true rfl) (Nat.le_of_ble_eq_true rfl) ⟨Nat.le_of_ble_eq_true rfl, Nat.le_of_ble_eq_true rfl⟩ dX11_supply_1 (fun hc ce q9 H1 locs1 hW hS e1 e2 e3 => x_out c5h htab hlocks e1 e2 e3 hW hS (Nat.le_of_ble_eq_true rfl) (Nat.le_of_ble_eq_true rfl)) (fun h0 => absurd h0 c5h)
  refine kx_X11_needBuffer hx hb hml hown htg hst hXt hZ hA hK hW hS h1 q419 hl.1 (Nat.le_of_ble_eq_true rfl) (Nat.le_of_ble_eq_true rfl) (Nat.le_of_ble_eq_true rfl) ⟨Nat.le_of_ble_eq_true rfl, Nat.le_of_ble_eq_true rfl⟩ dX11_supply_1 (fun hc => absurd rfl hc) (fun _ H locs hW hS => ?_)
  refine lv_aload_n hx hb dX11_supply_4 rfl (lv_at hl 0 rfl) ?_
  refine gf_14_0 hx hb htg hown hK hW q17 dX11_supply_5 ?_
  refine lv_iload_n hx hb dX11_supply_8 rfl (lv_at hl 1 rfl) ?_
  obtain ⟨r7, h6, hX⟩ := bd_go hX
  refine k_X1_storeAt hx hb hml hown htg hK hW hS h6 q422 hl.1 (Nat.le_of_ble_eq_true rfl) (Nat.le_of_ble_eq_true rfl) (Nat.le_of_ble_eq_true rfl) ⟨Nat.le_of_ble_eq_true rfl, Nat.le_of_ble_eq_true rfl⟩ dX11_supply_9 (fun H locs hW hS => ?_)
  refine lv_astore_n (lv' := [(2, .ref (gA G 9 ↑r7.1 ↑r7.2)), (0, .ref (gA G 14 0 0)), (1, .int p0)]) hx hb dX11_supply_12 rfl hl (by decide) rfl (fun ls hl => ?_)
  refine lv_aload_n hx hb dX11_supply_13 rfl (lv_at hl 0 rfl) ?_
  obtain ⟨r9, h8, hX⟩ := bd_go hX
  refine k_X9_hasRoom hx hb hml hown htg hK hW hS h8 q441 hl.1 (Nat.le_of_ble_eq_true rfl) (Nat.le_of_ble_eq_true rfl) (Nat.le_of_ble_eq_true rfl) ⟨Nat.le_of_ble_eq_true rfl, Nat.le_of_ble_eq_true rfl⟩ dX11_supply_14 (fun H locs hW hS => ?_)
  refine lv_if_ne (tgt := 30) hx hb dX11_supply_17 (by decide) (fun c10 => ?_) (fun c10 => ?_)
  · have hX := it_f hX c10
    refine lv_aload_n hx hb dX11_supply_30 rfl (lv_at hl 1 rfl) ?_
    refine gf_14_4 hx hb htg hown hK hW q24 dX11_supply_31 ?_
    refine lv_aload_n hx hb dX11_supply_34 rfl (lv_at hl 1 rfl) ?_
    refine gf_14_0 hx hb htg hown hK hW q17 dX11_supply_35 ?_
    obtain ⟨x13, h11, hX⟩ := bd_go hX
    refine k_X4_keep hx hb hml hown htg hK hW hS h11 q225 hl.1 (Nat.le_of_ble_eq_true rfl) (Nat.le_of_ble_eq_true rfl) (Nat.le_of_ble_eq_true rfl) ⟨Nat.le_of_ble_eq_true rfl, Nat.le_of_ble_eq_true rfl⟩ dX11_supply_38 (fun H locs hW hS => ?_)
    refine lv_aload_n hx hb dX11_supply_41 rfl (lv_at hl 1 rfl) ?_
    refine gf_14_0 hx hb htg hown hK hW q17 dX11_supply_42 ?_
    obtain ⟨r15, x16, h14, hX⟩ := bd2_go hX
    refine k_X1_makePart hx hb hml hown htg hK hW hS h14 q445 hl.1 (Nat.le_of_ble_eq_true rfl) (Nat.le_of_ble_eq_true rfl) (Nat.le_of_ble_eq_true rfl) ⟨Nat.le_of_ble_eq_true rfl, Nat.le_of_ble_eq_true rfl⟩ dX11_supply_45 (fun H locs hW hS => ?_)
    refine lv_topi (fun x3_17 e9 => ?_)
    have hX := lt_go hX e9
    refine lv_istore_n (lv' := [(3, .int x3_17), (2, .ref (gA G 9 ↑r7.1 ↑r7.2)), (0, .ref (gA G 14 0 0)), (1, .int p0)]) hx hb dX11_supply_48 rfl hl (by decide) rfl (fun ls hl => ?_)
    refine lv_aload_n hx hb dX11_supply_49 rfl (lv_at hl 1 rfl) ?_
    refine lv_iload_n hx hb dX11_supply_50 rfl (lv_at hl 0 rfl) ?_
    obtain ⟨x20, h18, hX⟩ := bd_go hX
    refine k_X9_putLast hx hb hml hown htg hK hW hS h18 q449 hl.1 (Nat.le_of_ble_eq_true rfl) (Nat.le_of_ble_eq_true rfl) (Nat.le_of_ble_eq_true rfl) ⟨Nat.le_of_ble_eq_true rfl, Nat.le_of_ble_eq_true rfl⟩ dX11_supply_51 (fun H locs hW hS => ?_)
    refine lv_iload_n hx hb dX11_supply_54 rfl (lv_at hl 0 rfl) ?_
    have hX := Option.some.inj hX
    subst hX
    exact vx_ret (W.widen (k := 3) (n := 18) (Nat.le_of_ble_eq_true rfl) (Nat.le_of_ble_eq_true rfl) (rtx_i hx hb hr hlocks hW hS dX11_supply_55))
  · have hX := it_t hX c10
    have hX := Option.some.inj hX
    subst hX
    exact thS_3 hx hb hst htg hown hXt hZ hW hS (hl.1.trans hml.symm) (List.mem_of_getElem? (i := 2) rfl) dX11_supply_20 dX11_supply_23 dX11_supply_24 dX11_supply_26 dX11_supply_29 htab (Nat.le_of_ble_eq_true rfl) (Nat.le_of_ble_eq_true rfl) (Nat.le_of_ble_eq_true rfl) (Nat.le_of_ble_eq_true rfl) hlocks (Nat.le_of_ble_eq_true rfl) (Nat.le_of_ble_eq_true rfl)
set_option maxHeartbeats 4000000 in
theorem kx_X11_supply {p : Program} {l : Launch} {e : Env} {R : Room} {s : State} {m : MethodId} {args : Array Value} {below : List Frame} {meth : Method} {c : Code} {H : Heap} {locs : List Loc} {cells slots : Nat} {Q : State → Prop} {cc : ByteArray} {pc nL idx : Nat} {own : String} {ls : Array Slot} {rest : List Value} {G : Geo} {x y : Mem} {p0 : Int32} {cd : Nat} {v : Int32} {z : Mem} (hx : p.tables.exec = Jvm.exec) (hb : c.code = cc) (hml : c.maxLocals = nL) (hown : s.vm.findClass own = some m.cls) (htg : ∀ w ∈ wsG, w.before args s = true) (hst : l.stackTraces = false) (hXt : Xt s) (hZ : Zt G s s.heap) (hA : ∀ q, s.heap.size ≤ q → gF G q) (hK : Kt G s) (hW : Wh G x y H) (hS : va_S (gF G) s.heap H locs) (h : m_X11_supply p0 x = some (cd, v, z)) (hlk : Cond.methodLink own idx yX11_supply ∈ wsG) (hn : ls.size = nL) (hr : (rest.map fun v => v.category).sum ≤ 8) (hR1 : 7 + 1 ≤ R.frames) (hR2 : 8 + (4 + 11) + 110 ≤ R.locals) (hf : cells + 3 ≤ R.cells ∧ slots + 18 ≤ R.slots) (hdg : decode cc pc = .ok (.invokevirtual idx, 3)) (kx : ¬ cd = 0 → ∀ (ce : Cell) (q9 : Addr) (H1 : Heap) (locs1 : List Loc), Wh G z y H1 → va_S (gF G) s.heap H1 locs1 → H1[q9]? = some ce → ce.vm = .none → s.vm.findClass (exN cd) = some ce.cls → vx_W p l e R s m args below meth c H1 locs1 (cells + 3) (slots + 18) Q (F0 m pc ls rest) q9) (kk : cd = 0 → ∀ (H1 : Heap) (locs1 : List Loc), Wh G z y H1 → va_S (gF G) s.heap H1 locs1 → W p l e R s m args below meth c H1 locs1 (cells + 3) (slots + 18) Q (F0 m (pc + 3) ls (.int v :: rest))) : W p l e R s m args below meth c H locs cells slots Q (F0 m pc ls (.int p0 :: .ref (gA G 14 0 0) :: rest)) := by
  refine vx_calli (vx_runV (As := [.int p0]) (rest := rest) ⟨hx, hb, hml, hown, htg⟩ (c_X11_supply l hst G x y p0 (cd, v, z) h) (cwV 1 htg (gd_V hlk q438 q439 q2 q440) rfl rfl rfl (by decide +kernel) ⟨hR1, hR2⟩) ⟨fun a U g mk q => ⟨q.1, q.2.1.calling, q.2.2.1.calling, q.2.2.2.1.calling, q.2.2.2.2.1, q.2.2.2.2.2⟩, rc_14 hK hW, fun U hU hW9 => ⟨rfl, hK.warm hW9, hXt.warm hW9, by rw [hU]; exact (hZ.kept hS).moved hW9.alike, by rw [hU]; exact fun q hq => hA q (Nat.le_trans hS.1 hq), by rw [hU]; exact hW⟩⟩ rfl rfl hn rfl (lv_room hr) hdg hf) hS (fun _ _ h9 => h9) (fun _ h9 => h9) (fun _ _ h9 => h9) ?_ ?_
  · intro E ce q9 u t H1 locs1 ht hvm hp hB hz hk hS1 e1 e2 e3
    obtain ⟨hc, hE, hB⟩ := hB
    replace hB : Wh G z y t.heap := hB
    rw [ht] at hB
    replace hE : E = exN cd := hE
    subst hE
    exact kx hc ce q9 H1 locs1 hB hS1 e1 e2 e3
  · intro r9 u t H1 locs1 ht hvm hw hB hz1 hk1 hS1
    replace hB : Wh G z y t.heap := hB
    rw [ht] at hB
    obtain ⟨hw, hv⟩ := hw
    replace hv : r9 = v := hv
    subst hv
    exact kk hw H1 locs1 hB hS1
/-! METHOD X11_tick -/
def m_X11_tick_b41 (p0 : Int32) (k41 : Int32 → Int32 → Mem → Option (Nat × Int32 × Mem)) (x2 : Int32) (x3 : Int32) (x : Mem) : Option (Nat × Int32 × Mem) :=
  if p0 ≤ x3 then (some (0, ((x 2 ↑((0 : Fin 10)) 0 2) - x2), x)) else (bd_ (m_X8_makeTick (0 : Fin 10) x) fun x12 => lt_ (x3 + (1 : Int32)) fun x3_13 => k41 x2 x3_13 x12)
def m_X11_tick_l41 (p0 : Int32) : Nat → Int32 → Int32 → Mem → Option (Nat × Int32 × Mem)
  | 0, _, _, _ => none
  | n + 1, x2, x3, x => m_X11_tick_b41 p0 (m_X11_tick_l41 p0 n) x2 x3 x
def m_X11_tick (p0 : Int32) (x : Mem) : Option (Nat × Int32 × Mem) :=
  bd_ (m_X11_isWithin p0 (1 : Int32) (50 : Int32)) fun r2 => if r2 = 0 then (some (2, (0 : Int32), x)) else (bd_ (m_X4_keep (0 : Fin 10) x) fun x6 => lt_ (x6 2 ↑((0 : Fin 10)) 0 2) fun x2_7 => lt_ (0 : Int32) fun x3_8 => m_X11_tick_l41 p0 FU x2_7 x3_8 x6)
abbrev WS_X11_tick : List Cond := .code yX11_tick cX11_tick 4 (some .int) :: wsG
abbrev RM_X11_tick : Room := { frames := 6, cells := 3, slots := 18, locals := 121 }
set_option maxHeartbeats 4000000 in
set_option maxRecDepth 100000 in
theorem c_X11_tick (l : Launch) (hst : l.stackTraces = false) (G : Geo) (x y : Mem) (p0 : Int32) (r : (Nat × Int32 × Mem)) (h : m_X11_tick p0 x = some r) : vx_Met l yX11_tick WS_X11_tick RM_X11_tick (Px G x y [.ref (gA G 14 0 0), .int p0]) (QXi G r y) (XQ G r y) 3 18 (gF G) := by
  refine vx_ofW (cc := cX11_tick) (maxL := 4) (ret := (some .int)) (by decide) rfl ?_
  intro p e s m args below meth c s₁ B hml htab hv
  obtain ⟨rfl, hK, hXt, hZ, hA, hW⟩ := hv
  have hx := B.exec
  have hb := B.bytes
  have hr := B.returns
  have hts := atoms_spec (ws := WS_X11_tick) B.pre
  have htg : ∀ w ∈ wsG, w.before _ s = true := fun w h => hts w (List.mem_cons_of_mem _ h)
  have hown : s.vm.findClass RX11 = some m.cls := findClass_of_methodNamed B.named
  have hlocks := B.notSynchronized
  have hS : va_S (gF G) s.heap s.heap [] := va_S.rf
  have hl := lv_entry ([.ref (gA G 14 0 0), .int p0]) (n := 4) (Nat.le_of_ble_eq_true rfl)
  rw [lg_entry_eq]
  generalize (lg_sl ([.ref (gA G 14 0 0), .int p0]) ++ List.replicate (4 - (lg_sl ([.ref (gA G 14 0 0), .int p0])).length) Slot.unset).toArray = ls at hl ⊢
  have hl : lv_has ls 4 [(0, .ref (gA G 14 0 0)), (1, .int p0)] := hl
  have hX := h
  unfold m_X11_tick at hX
  have B_41 : ∀ (k41 : Int32 → Int32 → Mem → Option (Nat × Int32 × Mem)) (hk41 : ∀ (x2 : Int32) (x3 : Int32) (x : Mem) (H : Heap) (locs : List Loc) (ls : Array Slot), Wh G x y H → va_S (gF G) s.heap H locs → lv_has ls 4 [(0, .ref (gA G 14 0 0)), (1, .int p0), (2, .int x2), (3, .int x3)] → k41 x2 x3 x = some r → W p l e (headSpec WS_X11_tick RM_X11_tick).room s m ([.ref (gA G 14 0 0), .int p0] : List Value).toArray below meth c H locs 0 0 (vx_MQ below (QXi G r y) (XQ G r y) ([.ref (gA G 14 0 0), .int p0] : List Value).toArray s 3 18 (gF G)) (F0 m 41 ls [])), ∀ (x2 : Int32) (x3 : Int32) (x : Mem) (H : Heap) (locs : List Loc) (ls : Array Slot), Wh G x y H → va_S (gF G) s.heap H locs → lv_has ls 4 [(0, .ref (gA G 14 0 0)), (1, .int p0), (2, .int x2), (3, .int x3)] → m_X11_tick_b41 p0 k41 x2 x3 x = some r → W p l e (headSpec WS_X11_tick RM_X11_tick).room s m ([.ref (gA G 14 0 0), .int p0] : List Value).toArray below meth c H locs 0 0 (vx_MQ below (QXi G r y) (XQ G r y) ([.ref (gA G 14 0 0), .int p0] : List Value).toArray s 3 18 (gF G)) (F0 m 41 ls []) := by
    intro k41 hk41 x2 x3 x H locs ls hW hS hl hX
    unfold m_X11_tick_b41 at hX
    refine lv_iload_n hx hb dX11_tick_41 rfl (lv_at hl 3 rfl) ?_
    refine lv_iload_n hx hb dX11_tick_42 rfl (lv_at hl 1 rfl) ?_
    refine lv_icmp_ge (tgt := 63) hx hb dX11_tick_43 (by decide) (fun c9 => ?_) (fun c9 => ?_)
    · have hX := it_t hX c9
      refine lv_aload_n hx hb dX11_tick_63 rfl (lv_at hl 0 rfl) ?_
      refine gf_14_0 hx hb htg hown hK hW q17 dX11_tick_64 ?_
      refine gf_2_2 hx hb htg hown hK hW (0 : Fin 10) q678 dX11_tick_67 ?_
      refine lv_iload_n hx hb dX11_tick_70 rfl (lv_at hl 2 rfl) ?_
      refine lv_isub hx hb dX11_tick_71 ?_
      have hX := Option.some.inj hX
      subst hX
      exact vx_ret (W.widen (k := 3) (n := 18) (Nat.le_of_ble_eq_true rfl) (Nat.le_of_ble_eq_true rfl) (rtx_i hx hb hr hlocks hW hS dX11_tick_72))
    · have hX := it_f hX c9
      refine lv_aload_n hx hb dX11_tick_46 rfl (lv_at hl 0 rfl) ?_
      refine gf_14_5 hx hb htg hown hK hW q28 dX11_tick_47 ?_
      refine lv_aload_n hx hb dX11_tick_50 rfl (lv_at hl 0 rfl) ?_
      refine gf_14_0 hx hb htg hown hK hW q17 dX11_tick_51 ?_
      obtain ⟨x12, h10, hX⟩ := bd_go hX
      refine k_X8_makeTick hx hb hml hown htg hK hW hS h10 q679 hl.1 (Nat.le_of_ble_eq_true rfl) (Nat.le_of_ble_eq_true rfl) (Nat.le_of_ble_eq_true rfl) ⟨Nat.le_of_ble_eq_true rfl, Nat.le_of_ble_eq_true rfl⟩ dX11_tick_54 (fun H locs hW hS => ?_)
      obtain ⟨x3_13, e9⟩ : ∃ w : Int32, w = (x3 + (1 : Int32)) := ⟨_, rfl⟩
      have hX := lt_go hX e9
      refine lv_iinc (v := x3_13) (lv' := [(3, .int x3_13), (0, .ref (gA G 14 0 0)), (1, .int p0), (2, .int x2)]) hx hb dX11_tick_57 hl (k := 3) rfl (by rw [e9]; rfl) (by decide) rfl (fun ls hl => ?_)
      refine lv_goto (tgt := 41) hx hb dX11_tick_60 (by decide) ?_
      exact hk41 _ _ _ _ _ _ hW hS (lv_sub hl [1, 2, 3, 0] rfl) hX
  have L_41 : ∀ (n : Nat), ∀ (x2 : Int32) (x3 : Int32) (x : Mem) (H : Heap) (locs : List Loc) (ls : Array Slot), Wh G x y H → va_S (gF G) s.heap H locs → lv_has ls 4 [(0, .ref (gA G 14 0 0)), (1, .int p0), (2, .int x2), (3, .int x3)] → m_X11_tick_l41 p0 n x2 x3 x = some r → W p l e (headSpec WS_X11_tick RM_X11_tick).room s m ([.ref (gA G 14 0 0), .int p0] : List Value).toArray below meth c H locs 0 0 (vx_MQ below (QXi G r y) (XQ G r y) ([.ref (gA G 14 0 0), .int p0] : List Value).toArray s 3 18 (gF G)) (F0 m 41 ls []) := by
    intro n
    induction n with
    | zero => intro x2 x3 x H locs ls hW hS hl hX; exact no_go hX
    | succ n ih => intro x2 x3 x H locs ls hW hS hl hX; exact B_41 _ ih _ _ _ _ _ _ hW hS hl hX
  refine lv_iload_n hx hb dX11_tick_0 rfl (lv_at hl 1 rfl) ?_
  refine lv_iconst (v := (1 : Int32)) hx hb dX11_tick_1 (by decide) ?_
  refine lv_bipush (v := (50 : Int32)) hx hb dX11_tick_2 (by decide) ?_
  obtain ⟨r2, h1, hX⟩ := bd_go hX
  refine k_X11_isWithin hx hb hml hown htg hK hW hS h1 q395 hl.1 (Nat.le_of_ble_eq_true rfl) (Nat.le_of_ble_eq_true rfl) (Nat.le_of_ble_eq_true rfl) ⟨Nat.le_of_ble_eq_true rfl, Nat.le_of_ble_eq_true rfl⟩ dX11_tick_4 (fun H locs hW hS => ?_)
  refine lv_if_ne (tgt := 20) hx hb dX11_tick_7 (by decide) (fun c3 => ?_) (fun c3 => ?_)
  · have hX := it_f hX c3
    refine lv_aload_n hx hb dX11_tick_20 rfl (lv_at hl 0 rfl) ?_
    refine gf_14_4 hx hb htg hown hK hW q24 dX11_tick_21 ?_
    refine lv_aload_n hx hb dX11_tick_24 rfl (lv_at hl 0 rfl) ?_
    refine gf_14_0 hx hb htg hown hK hW q17 dX11_tick_25 ?_
    obtain ⟨x6, h4, hX⟩ := bd_go hX
    refine k_X4_keep hx hb hml hown htg hK hW hS h4 q225 hl.1 (Nat.le_of_ble_eq_true rfl) (Nat.le_of_ble_eq_true rfl) (Nat.le_of_ble_eq_true rfl) ⟨Nat.le_of_ble_eq_true rfl, Nat.le_of_ble_eq_true rfl⟩ dX11_tick_28 (fun H locs hW hS => ?_)
    refine lv_aload_n hx hb dX11_tick_31 rfl (lv_at hl 0 rfl) ?_
    refine gf_14_0 hx hb htg hown hK hW q17 dX11_tick_32 ?_
    refine gf_2_2 hx hb htg hown hK hW (0 : Fin 10) q678 dX11_tick_35 ?_
    refine lv_topi (fun x2_7 e9 => ?_)
    have hX := lt_go hX e9
    refine lv_istore_n (lv' := [(2, .int x2_7), (0, .ref (gA G 14 0 0)), (1, .int p0)]) hx hb dX11_tick_38 rfl hl (by decide) rfl (fun ls hl => ?_)
    refine lv_iconst (v := (0 : Int32)) hx hb dX11_tick_39 (by decide) ?_
    refine lv_topi (fun x3_8 e9 => ?_)
    have hX := lt_go hX e9
    refine lv_istore_n (lv' := [(3, .int x3_8), (2, .int x2_7), (0, .ref (gA G 14 0 0)), (1, .int p0)]) hx hb dX11_tick_40 rfl hl (by decide) rfl (fun ls hl => ?_)
    exact L_41 FU _ _ _ _ _ _ hW hS (lv_sub hl [2, 3, 1, 0] rfl) hX
  · have hX := it_t hX c3
    have hX := Option.some.inj hX
    subst hX
    exact thS_2 hx hb hst htg hown hXt hZ hW hS (hl.1.trans hml.symm) (List.mem_of_getElem? (i := 7) rfl) dX11_tick_10 dX11_tick_13 dX11_tick_14 dX11_tick_16 dX11_tick_19 htab (Nat.le_of_ble_eq_true rfl) (Nat.le_of_ble_eq_true rfl) (Nat.le_of_ble_eq_true rfl) (Nat.le_of_ble_eq_true rfl) hlocks (Nat.le_of_ble_eq_true rfl) (Nat.le_of_ble_eq_true rfl)
set_option maxHeartbeats 4000000 in
theorem kx_X11_tick {p : Program} {l : Launch} {e : Env} {R : Room} {s : State} {m : MethodId} {args : Array Value} {below : List Frame} {meth : Method} {c : Code} {H : Heap} {locs : List Loc} {cells slots : Nat} {Q : State → Prop} {cc : ByteArray} {pc nL idx : Nat} {own : String} {ls : Array Slot} {rest : List Value} {G : Geo} {x y : Mem} {p0 : Int32} {cd : Nat} {v : Int32} {z : Mem} (hx : p.tables.exec = Jvm.exec) (hb : c.code = cc) (hml : c.maxLocals = nL) (hown : s.vm.findClass own = some m.cls) (htg : ∀ w ∈ wsG, w.before args s = true) (hst : l.stackTraces = false) (hXt : Xt s) (hZ : Zt G s s.heap) (hA : ∀ q, s.heap.size ≤ q → gF G q) (hK : Kt G s) (hW : Wh G x y H) (hS : va_S (gF G) s.heap H locs) (h : m_X11_tick p0 x = some (cd, v, z)) (hlk : Cond.methodLink own idx yX11_tick ∈ wsG) (hn : ls.size = nL) (hr : (rest.map fun v => v.category).sum ≤ 8) (hR1 : 6 + 1 ≤ R.frames) (hR2 : 8 + (4 + 11) + 121 ≤ R.locals) (hf : cells + 3 ≤ R.cells ∧ slots + 18 ≤ R.slots) (hdg : decode cc pc = .ok (.invokevirtual idx, 3)) (kx : ¬ cd = 0 → ∀ (ce : Cell) (q9 : Addr) (H1 : Heap) (locs1 : List Loc), Wh G z y H1 → va_S (gF G) s.heap H1 locs1 → H1[q9]? = some ce → ce.vm = .none → s.vm.findClass (exN cd) = some ce.cls → vx_W p l e R s m args below meth c H1 locs1 (cells + 3) (slots + 18) Q (F0 m pc ls rest) q9) (kk : cd = 0 → ∀ (H1 : Heap) (locs1 : List Loc), Wh G z y H1 → va_S (gF G) s.heap H1 locs1 → W p l e R s m args below meth c H1 locs1 (cells + 3) (slots + 18) Q (F0 m (pc + 3) ls (.int v :: rest))) : W p l e R s m args below meth c H locs cells slots Q (F0 m pc ls (.int p0 :: .ref (gA G 14 0 0) :: rest)) := by
  refine vx_calli (vx_runV (As := [.int p0]) (rest := rest) ⟨hx, hb, hml, hown, htg⟩ (c_X11_tick l hst G x y p0 (cd, v, z) h) (cwV 1 htg (gd_V hlk q675 q676 q2 q677) rfl rfl rfl (by decide +kernel) ⟨hR1, hR2⟩) ⟨fun a U g mk q => ⟨q.1, q.2.1.calling, q.2.2.1.calling, q.2.2.2.1.calling, q.2.2.2.2.1, q.2.2.2.2.2⟩, rc_14 hK hW, fun U hU hW9 => ⟨rfl, hK.warm hW9, hXt.warm hW9, by rw [hU]; exact (hZ.kept hS).moved hW9.alike, by rw [hU]; exact fun q hq => hA q (Nat.le_trans hS.1 hq), by rw [hU]; exact hW⟩⟩ rfl rfl hn rfl (lv_room hr) hdg hf) hS (fun _ _ h9 => h9) (fun _ h9 => h9) (fun _ _ h9 => h9) ?_ ?_
  · intro E ce q9 u t H1 locs1 ht hvm hp hB hz hk hS1 e1 e2 e3
    obtain ⟨hc, hE, hB⟩ := hB
    replace hB : Wh G z y t.heap := hB
    rw [ht] at hB
    replace hE : E = exN cd := hE
    subst hE
    exact kx hc ce q9 H1 locs1 hB hS1 e1 e2 e3
  · intro r9 u t H1 locs1 ht hvm hw hB hz1 hk1 hS1
    replace hB : Wh G z y t.heap := hB
    rw [ht] at hB
    obtain ⟨hw, hv⟩ := hw
    replace hv : r9 = v := hv
    subst hv
    exact kk hw H1 locs1 hB hS1
