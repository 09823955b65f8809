/-! METHOD X0_takeLastOfRow -/
def m_X0_takeLastOfRow (p0 : Fin 10 × Fin 4) (x : Mem) : Option (Int32 × Mem) :=
  bd_ (m_X0_rowAt p0 ((x 0 ↑p0.1 ↑p0.2 12) - (1 : Int32)) x) fun r2 => lt_ r2 fun x1_3 => if (x 0 ↑p0.1 ↑p0.2 12) ≤ 0 then (some (x1_3, x)) else (lt_ (up4 x 0 ↑p0.1 ↑p0.2 12 ((x 0 ↑p0.1 ↑p0.2 12) - (1 : Int32))) fun x5 => some (x1_3, x5))
abbrev WS_X0_takeLastOfRow : List Cond := .code yX0_takeLastOfRow cX0_takeLastOfRow 2 (some .int) :: wsG
abbrev RM_X0_takeLastOfRow : Room := { frames := 1, cells := 0, slots := 0, locals := 21 }
set_option maxHeartbeats 4000000 in
set_option maxRecDepth 100000 in
theorem c_X0_takeLastOfRow (l : Launch) (G : Geo) (x y : Mem) (p0 : Fin 10 × Fin 4) (r : (Int32 × Mem)) (h : m_X0_takeLastOfRow p0 x = some r) : Met l yX0_takeLastOfRow WS_X0_takeLastOfRow RM_X0_takeLastOfRow (Pw G x y [.ref (gA G 0 ↑p0.1 ↑p0.2)]) (Qi G r.2 y r.1) 0 0 (gF G) := by
  refine Met.ofW (cc := cX0_takeLastOfRow) (maxL := 2) (ret := (some .int)) (by decide) rfl ?_
  intro p e s m args below meth c s₁ B hml hv
  obtain ⟨rfl, hK, hW⟩ := hv
  have hx := B.exec
  have hb := B.bytes
  have hr := B.returns
  have hts := atoms_spec (ws := WS_X0_takeLastOfRow) B.pre
  have htg : ∀ w ∈ wsG, w.before _ s = true := fun w h => hts w (List.mem_cons_of_mem _ h)
  have hown : s.vm.findClass RX0 = some m.cls := findClass_of_methodNamed B.named
  have hlocks := B.notSynchronized
  have hS : va_S (gF G) s.heap s.heap [] := va_S.rf
  have hl := lv_entry ([.ref (gA G 0 ↑p0.1 ↑p0.2)]) (n := 2) (Nat.le_of_ble_eq_true rfl)
  rw [lg_entry_eq]
  generalize (lg_sl ([.ref (gA G 0 ↑p0.1 ↑p0.2)]) ++ List.replicate (2 - (lg_sl ([.ref (gA G 0 ↑p0.1 ↑p0.2)])).length) Slot.unset).toArray = ls at hl ⊢
  have hl : lv_has ls 2 [(0, .ref (gA G 0 ↑p0.1 ↑p0.2))] := hl
  have hX := h
  unfold m_X0_takeLastOfRow at hX
  refine lv_aload_n hx hb dX0_takeLastOfRow_0 rfl (lv_at hl 0 rfl) ?_
  refine lv_aload_n hx hb dX0_takeLastOfRow_1 rfl (lv_at hl 0 rfl) ?_
  refine gf_0_12 hx hb htg hown hK hW p0 q270 dX0_takeLastOfRow_2 ?_
  refine lv_iconst (v := (1 : Int32)) hx hb dX0_takeLastOfRow_5 (by decide) ?_
  refine lv_isub hx hb dX0_takeLastOfRow_6 ?_
  obtain ⟨r2, h1, hX⟩ := bd_go hX
  refine k_X0_rowAt hx hb hml hown htg hK hW hS h1 q599 hl.1 (Nat.le_of_ble_eq_true rfl) (Nat.le_of_ble_eq_true rfl) (Nat.le_of_ble_eq_true rfl) ⟨Nat.zero_le _, Nat.zero_le _⟩ dX0_takeLastOfRow_7 (fun H locs hW hS => ?_)
  refine lv_topi (fun x1_3 e9 => ?_)
  have hX := lt_go hX e9
  refine lv_istore_n (lv' := [(1, .int x1_3), (0, .ref (gA G 0 ↑p0.1 ↑p0.2))]) hx hb dX0_takeLastOfRow_10 rfl hl (by decide) rfl (fun ls hl => ?_)
  refine lv_aload_n hx hb dX0_takeLastOfRow_11 rfl (lv_at hl 1 rfl) ?_
  refine gf_0_12 hx hb htg hown hK hW p0 q270 dX0_takeLastOfRow_12 ?_
  refine lv_if_le (tgt := 28) hx hb dX0_takeLastOfRow_15 (by decide) (fun c4 => ?_) (fun c4 => ?_)
  · have hX := it_t hX c4
    refine lv_iload_n hx hb dX0_takeLastOfRow_28 rfl (lv_at hl 0 rfl) ?_
    have hX := Option.some.inj hX
    subst hX
    exact rt_i hx hb hr hlocks hW hS dX0_takeLastOfRow_29
  · have hX := it_f hX c4
    refine lv_aload_n hx hb dX0_takeLastOfRow_18 rfl (lv_at hl 1 rfl) ?_
    refine lv_dup hx hb dX0_takeLastOfRow_19 rfl ?_
    refine gf_0_12 hx hb htg hown hK hW p0 q270 dX0_takeLastOfRow_20 ?_
    refine lv_iconst (v := (1 : Int32)) hx hb dX0_takeLastOfRow_23 (by decide) ?_
    refine lv_isub hx hb dX0_takeLastOfRow_24 ?_
    refine pf_0_12 hx hb htg hown hK hW hS p0 q270 dX0_takeLastOfRow_25 (fun H locs hW hS => ?_)
    obtain ⟨x5, e9⟩ : ∃ w : Mem, w = (up4 x 0 ↑p0.1 ↑p0.2 12 ((x 0 ↑p0.1 ↑p0.2 12) - (1 : Int32))) := ⟨_, rfl⟩
    rw [← e9] at hW
    have hX := lt_go hX e9
    refine lv_iload_n hx hb dX0_takeLastOfRow_28 rfl (lv_at hl 0 rfl) ?_
    have hX := Option.some.inj hX
    subst hX
    exact rt_i hx hb hr hlocks hW hS dX0_takeLastOfRow_29
set_option maxHeartbeats 4000000 in
theorem k_X0_takeLastOfRow {p : Program} {l : Launch} {e : Env} {R : Room} {s : State} {m : MethodId} {args : Array Value} {below : List Frame} {meth : Method} {c : Code} {H : Heap} {locs : List Loc} {cells slots : Nat} {Q : State → Prop} {cc : ByteArray} {pc nL idx : Nat} {own : String} {ls : Array Slot} {rest : List Value} {G : Geo} {x y : Mem} {H0 : Heap} {p0 : Fin 10 × Fin 4} {v : Int32} {z : Mem} (hx : p.tables.exec = Jvm.exec) (hb : c.code = cc) (hml : c.maxLocals = nL) (hown : s.vm.findClass own = some m.cls) (htg : ∀ w ∈ wsG, w.before args s = true) (hK : Kt G s) (hW : Wh G x y H) (hS : va_S (gF G) H0 H locs) (h : m_X0_takeLastOfRow p0 x = some (v, z)) (hlk : Cond.methodLink own idx yX0_takeLastOfRow ∈ wsG) (hn : ls.size = nL) (hr : (rest.map fun v => v.category).sum ≤ 8) (hR1 : 1 + 1 ≤ R.frames) (hR2 : 8 + (2 + 11) + 21 ≤ R.locals) (hf : cells ≤ R.cells ∧ slots ≤ R.slots) (hdg : decode cc pc = .ok (.invokevirtual idx, 3)) (kk : ∀ (H1 : Heap) (locs1 : List Loc), Wh G z y H1 → va_S (gF G) H0 H1 locs1 → W p l e R s m args below meth c H1 locs1 cells slots Q (F0 m (pc + 3) ls (.int v :: rest))) : W p l e R s m args below meth c H locs cells slots Q (F0 m pc ls (.ref (gA G 0 ↑p0.1 ↑p0.2) :: rest)) := by
  refine va_calli (va_runV (As := []) (rest := rest) ⟨hx, hb, hml, hown, htg⟩ (c_X0_takeLastOfRow l G x y p0 (v, z) h) (cwV 0 htg (gd_V hlk q596 q597 q47 q598) rfl rfl rfl (by decide +kernel) ⟨hR1, hR2⟩) ⟨fun a U g mk q => ⟨q.1, q.2.1.calling, q.2.2⟩, rc_0 hK hW p0, fun U hU hW9 => ⟨rfl, hK.warm hW9, by rw [hU]; exact hW⟩⟩ rfl rfl hn rfl (lv_room hr) hdg hf) hS (fun _ _ h9 => h9) (fun _ h9 => h9) ?_
  intro r9 u t H1 locs1 ht hvm hw hB hz1 hk1 hS1
  replace hB : Wh G z y t.heap := hB
  rw [ht] at hB
  replace hw : r9 = v := hw
  subst hw
  exact kk H1 locs1 hB hS1
/-! METHOD X0_workAt -/
def m_X0_workAt (p0 : Fin 10 × Fin 4) (p1 : Int32) (p2 : Int32) (p3 : Int32) (x : Mem) : Option Mem :=
  lt_ (up4 x 0 ↑p0.1 ↑p0.2 2 (1 : Int32)) fun x1 => lt_ (up4 x1 0 ↑p0.1 ↑p0.2 4 p1) fun x2 => lt_ (up4 x2 0 ↑p0.1 ↑p0.2 5 p3) fun x3 => lt_ (up4 x3 0 ↑p0.1 ↑p0.2 6 (shl32 (1 : Int32) p2)) fun x4 => some x4
abbrev WS_X0_workAt : List Cond := .code yX0_workAt cX0_workAt 4 none :: wsG
abbrev RM_X0_workAt : Room := { frames := 0, cells := 0, slots := 0, locals := 0 }
set_option maxHeartbeats 4000000 in
set_option maxRecDepth 100000 in
theorem c_X0_workAt (l : Launch) (G : Geo) (x y : Mem) (p0 : Fin 10 × Fin 4) (p1 : Int32) (p2 : Int32) (p3 : Int32) (r : Mem) (h : m_X0_workAt p0 p1 p2 p3 x = some r) : Met l yX0_workAt WS_X0_workAt RM_X0_workAt (Pw G x y [.ref (gA G 0 ↑p0.1 ↑p0.2), .int p1, .int p2, .int p3]) (Qv G r y) 0 0 (gF G) := by
  refine Met.ofW (cc := cX0_workAt) (maxL := 4) (ret := none) (by decide) rfl ?_
  intro p e s m args below meth c s₁ B hml hv
  obtain ⟨rfl, hK, hW⟩ := hv
  have hx := B.exec
  have hb := B.bytes
  have hr := B.returns
  have hts := atoms_spec (ws := WS_X0_workAt) B.pre
  have htg : ∀ w ∈ wsG, w.before _ s = true := fun w h => hts w (List.mem_cons_of_mem _ h)
  have hown : s.vm.findClass RX0 = some m.cls := findClass_of_methodNamed B.named
  have hlocks := B.notSynchronized
  have hS : va_S (gF G) s.heap s.heap [] := va_S.rf
  have hl := lv_entry ([.ref (gA G 0 ↑p0.1 ↑p0.2), .int p1, .int p2, .int p3]) (n := 4) (Nat.le_of_ble_eq_true rfl)
  rw [lg_entry_eq]
  generalize (lg_sl ([.ref (gA G 0 ↑p0.1 ↑p0.2), .int p1, .int p2, .int p3]) ++ List.replicate (4 - (lg_sl ([.ref (gA G 0 ↑p0.1 ↑p0.2), .int p1, .int p2, .int p3])).length) Slot.unset).toArray = ls at hl ⊢
  have hl : lv_has ls 4 [(0, .ref (gA G 0 ↑p0.1 ↑p0.2)), (1, .int p1), (2, .int p2), (3, .int p3)] := hl
  have hX := h
  unfold m_X0_workAt at hX
  refine lv_aload_n hx hb dX0_workAt_0 rfl (lv_at hl 0 rfl) ?_
  refine lv_iconst (v := (1 : Int32)) hx hb dX0_workAt_1 (by decide) ?_
  refine pf_0_2 hx hb htg hown hK hW hS p0 q78 dX0_workAt_2 (fun H locs hW hS => ?_)
  obtain ⟨x1, e9⟩ : ∃ w : Mem, w = (up4 x 0 ↑p0.1 ↑p0.2 2 (1 : Int32)) := ⟨_, rfl⟩
  rw [← e9] at hW
  have hX := lt_go hX e9
  refine lv_aload_n hx hb dX0_workAt_5 rfl (lv_at hl 0 rfl) ?_
  refine lv_iload_n hx hb dX0_workAt_6 rfl (lv_at hl 1 rfl) ?_
  refine pf_0_4 hx hb htg hown hK hW hS p0 q262 dX0_workAt_7 (fun H locs hW hS => ?_)
  obtain ⟨x2, e9⟩ : ∃ w : Mem, w = (up4 x1 0 ↑p0.1 ↑p0.2 4 p1) := ⟨_, rfl⟩
  rw [← e9] at hW
  have hX := lt_go hX e9
  refine lv_aload_n hx hb dX0_workAt_10 rfl (lv_at hl 0 rfl) ?_
  refine lv_iload_n hx hb dX0_workAt_11 rfl (lv_at hl 3 rfl) ?_
  refine pf_0_5 hx hb htg hown hK hW hS p0 q263 dX0_workAt_12 (fun H locs hW hS => ?_)
  obtain ⟨x3, e9⟩ : ∃ w : Mem, w = (up4 x2 0 ↑p0.1 ↑p0.2 5 p3) := ⟨_, rfl⟩
  rw [← e9] at hW
  have hX := lt_go hX e9
  refine lv_aload_n hx hb dX0_workAt_15 rfl (lv_at hl 0 rfl) ?_
  refine lv_iconst (v := (1 : Int32)) hx hb dX0_workAt_16 (by decide) ?_
  refine lv_iload_n hx hb dX0_workAt_17 rfl (lv_at hl 2 rfl) ?_
  refine lv_ishl_ hx hb dX0_workAt_18 ?_
  refine pf_0_6 hx hb htg hown hK hW hS p0 q264 dX0_workAt_19 (fun H locs hW hS => ?_)
  obtain ⟨x4, e9⟩ : ∃ w : Mem, w = (up4 x3 0 ↑p0.1 ↑p0.2 6 (shl32 (1 : Int32) p2)) := ⟨_, rfl⟩
  rw [← e9] at hW
  have hX := lt_go hX e9
  have hX := Option.some.inj hX
  subst hX
  exact rt_v hx hb hr hlocks hW hS dX0_workAt_22
set_option maxHeartbeats 4000000 in
theorem k_X0_workAt {p : Program} {l : Launch} {e : Env} {R : Room} {s : State} {m : MethodId} {args : Array Value} {below : List Frame} {meth : Method} {c : Code} {H : Heap} {locs : List Loc} {cells slots : Nat} {Q : State → Prop} {cc : ByteArray} {pc nL idx : Nat} {own : String} {ls : Array Slot} {rest : List Value} {G : Geo} {x y : Mem} {H0 : Heap} {p0 : Fin 10 × Fin 4} {p1 : Int32} {p2 : Int32} {p3 : Int32} {z : Mem} (hx : p.tables.exec = Jvm.exec) (hb : c.code = cc) (hml : c.maxLocals = nL) (hown : s.vm.findClass own = some m.cls) (htg : ∀ w ∈ wsG, w.before args s = true) (hK : Kt G s) (hW : Wh G x y H) (hS : va_S (gF G) H0 H locs) (h : m_X0_workAt p0 p1 p2 p3 x = some z) (hlk : Cond.methodLink own idx yX0_workAt ∈ wsG) (hn : ls.size = nL) (hr : (rest.map fun v => v.category).sum ≤ 8) (hR1 : 0 + 1 ≤ R.frames) (hR2 : 8 + (4 + 11) + 0 ≤ R.locals) (hf : cells ≤ R.cells ∧ slots ≤ R.slots) (hdg : decode cc pc = .ok (.invokevirtual idx, 3)) (kk : ∀ (H1 : Heap) (locs1 : List Loc), Wh G z y H1 → va_S (gF G) H0 H1 locs1 → W p l e R s m args below meth c H1 locs1 cells slots Q (F0 m (pc + 3) ls (rest))) : W p l e R s m args below meth c H locs cells slots Q (F0 m pc ls (.int p3 :: .int p2 :: .int p1 :: .ref (gA G 0 ↑p0.1 ↑p0.2) :: rest)) := by
  refine va_callv (va_runV (As := [.int p1, .int p2, .int p3]) (rest := rest) ⟨hx, hb, hml, hown, htg⟩ (c_X0_workAt l G x y p0 p1 p2 p3 z h) (cwV 3 htg (gd_V hlk q707 q708 q47 q709) rfl rfl rfl (by decide +kernel) ⟨hR1, hR2⟩) ⟨fun a U g mk q => ⟨q.1, q.2.1.calling, q.2.2⟩, rc_0 hK hW p0, fun U hU hW9 => ⟨rfl, hK.warm hW9, by rw [hU]; exact hW⟩⟩ rfl rfl hn rfl (lv_room hr) hdg hf) hS (fun _ _ h9 => h9) (fun _ h9 => h9) ?_
  intro u t H1 locs1 ht hvm hw hB hz1 hk1 hS1
  replace hB : Wh G z y t.heap := hB
  rw [ht] at hB
  exact kk H1 locs1 hB hS1
/-! METHOD X1_jobAt -/
def m_X1_jobAt (p0 : Fin 10) (p1 : Int32) : Option (Fin 10 × Fin 31) :=
  if p1 < 0 then (some ((p0, 30) : Fin 10 × Fin 31)) else (if (30 : Int32) ≤ p1 then (some ((p0, 30) : Fin 10 × Fin 31)) else (gd_ p1 30 (lt_ (el_13 p0 p1) fun o4 => lt_ (el_13 p0 p1) fun o5 => some o5)))
abbrev WS_X1_jobAt : List Cond := .code yX1_jobAt cX1_jobAt 2 (some (.object "RobotCell$Job")) :: wsG
abbrev RM_X1_jobAt : Room := { frames := 0, cells := 0, slots := 0, locals := 0 }
set_option maxHeartbeats 4000000 in
set_option maxRecDepth 100000 in
theorem c_X1_jobAt (l : Launch) (G : Geo) (x y : Mem) (p0 : Fin 10) (p1 : Int32) (r : (Fin 10 × Fin 31)) (h : m_X1_jobAt p0 p1 = some r) : Met l yX1_jobAt WS_X1_jobAt RM_X1_jobAt (Pw G x y [.ref (gA G 2 ↑p0 0), .int p1]) (Qr G x y (gA G 12 ↑r.1 ↑r.2)) 0 0 (gF G) := by
  refine Met.ofW (cc := cX1_jobAt) (maxL := 2) (ret := (some (.object "RobotCell$Job"))) (by decide) rfl ?_
  intro p e s m args below meth c s₁ B hml hv
  obtain ⟨rfl, hK, hW⟩ := hv
  have hx := B.exec
  have hb := B.bytes
  have hr := B.returns
  have hts := atoms_spec (ws := WS_X1_jobAt) B.pre
  have htg : ∀ w ∈ wsG, w.before _ s = true := fun w h => hts w (List.mem_cons_of_mem _ h)
  have hown : s.vm.findClass RX1 = some m.cls := findClass_of_methodNamed B.named
  have hlocks := B.notSynchronized
  have hS : va_S (gF G) s.heap s.heap [] := va_S.rf
  have hl := lv_entry ([.ref (gA G 2 ↑p0 0), .int p1]) (n := 2) (Nat.le_of_ble_eq_true rfl)
  rw [lg_entry_eq]
  generalize (lg_sl ([.ref (gA G 2 ↑p0 0), .int p1]) ++ List.replicate (2 - (lg_sl ([.ref (gA G 2 ↑p0 0), .int p1])).length) Slot.unset).toArray = ls at hl ⊢
  have hl : lv_has ls 2 [(0, .ref (gA G 2 ↑p0 0)), (1, .int p1)] := hl
  have hX := h
  unfold m_X1_jobAt at hX
  refine lv_iload_n hx hb dX1_jobAt_0 rfl (lv_at hl 1 rfl) ?_
  refine lv_if_lt (tgt := 31) hx hb dX1_jobAt_1 (by decide) (fun c1 => ?_) (fun c1 => ?_)
  · have hX := it_t hX c1
    refine lv_aload_n hx hb dX1_jobAt_31 rfl (lv_at hl 0 rfl) ?_
    refine gf_2_14 hx hb htg hown hK hW p0 q56 dX1_jobAt_32 ?_
    have hX := Option.some.inj hX
    subst hX
    exact rt_r hx hb hr hlocks hW hS dX1_jobAt_35
  · have hX := it_f hX c1
    refine lv_iload_n hx hb dX1_jobAt_4 rfl (lv_at hl 1 rfl) ?_
    refine lv_aload_n hx hb dX1_jobAt_5 rfl (lv_at hl 0 rfl) ?_
    refine gf_2_13 hx hb htg hown hK hW p0 q59 dX1_jobAt_6 ?_
    refine an_13 hx hb hK hW p0 dX1_jobAt_9 ?_
    refine lv_icmp_ge (tgt := 31) hx hb dX1_jobAt_10 (by decide) (fun c2 => ?_) (fun c2 => ?_)
    · have hX := it_t hX c2
      refine lv_aload_n hx hb dX1_jobAt_31 rfl (lv_at hl 0 rfl) ?_
      refine gf_2_14 hx hb htg hown hK hW p0 q56 dX1_jobAt_32 ?_
      have hX := Option.some.inj hX
      subst hX
      exact rt_r hx hb hr hlocks hW hS dX1_jobAt_35
    · have hX := it_f hX c2
      refine lv_aload_n hx hb dX1_jobAt_13 rfl (lv_at hl 0 rfl) ?_
      refine gf_2_13 hx hb htg hown hK hW p0 q59 dX1_jobAt_14 ?_
      refine lv_iload_n hx hb dX1_jobAt_17 rfl (lv_at hl 1 rfl) ?_
      obtain ⟨g3, hX⟩ := gd_go hX
      refine ae_13 hx hb hK hW p0 g3 dX1_jobAt_18 ?_
      obtain ⟨o4, e9⟩ : ∃ w, w = (el_13 p0 p1) := ⟨_, rfl⟩
      rw [← e9]
      have hX := lt_go hX e9
      refine lv_ifnull hx hb dX1_jobAt_19 ?_
      refine lv_aload_n hx hb dX1_jobAt_22 rfl (lv_at hl 0 rfl) ?_
      refine gf_2_13 hx hb htg hown hK hW p0 q59 dX1_jobAt_23 ?_
      refine lv_iload_n hx hb dX1_jobAt_26 rfl (lv_at hl 1 rfl) ?_
      refine ae_13 hx hb hK hW p0 g3 dX1_jobAt_27 ?_
      obtain ⟨o5, e9⟩ : ∃ w, w = (el_13 p0 p1) := ⟨_, rfl⟩
      rw [← e9]
      have hX := lt_go hX e9
      refine lv_goto (tgt := 35) hx hb dX1_jobAt_28 (by decide) ?_
      have hX := Option.some.inj hX
      subst hX
      exact rt_r hx hb hr hlocks hW hS dX1_jobAt_35
set_option maxHeartbeats 4000000 in
theorem k_X1_jobAt {p : Program} {l : Launch} {e : Env} {R : Room} {s : State} {m : MethodId} {args : Array Value} {below : List Frame} {meth : Method} {c : Code} {H : Heap} {locs : List Loc} {cells slots : Nat} {Q : State → Prop} {cc : ByteArray} {pc nL idx : Nat} {own : String} {ls : Array Slot} {rest : List Value} {G : Geo} {x y : Mem} {H0 : Heap} {p0 : Fin 10} {p1 : Int32} {v : (Fin 10 × Fin 31)} (hx : p.tables.exec = Jvm.exec) (hb : c.code = cc) (hml : c.maxLocals = nL) (hown : s.vm.findClass own = some m.cls) (htg : ∀ w ∈ wsG, w.before args s = true) (hK : Kt G s) (hW : Wh G x y H) (hS : va_S (gF G) H0 H locs) (h : m_X1_jobAt p0 p1 = some v) (hlk : Cond.methodLink own idx yX1_jobAt ∈ wsG) (hn : ls.size = nL) (hr : (rest.map fun v => v.category).sum ≤ 8) (hR1 : 0 + 1 ≤ R.frames) (hR2 : 8 + (2 + 11) + 0 ≤ R.locals) (hf : cells ≤ R.cells ∧ slots ≤ R.slots) (hdg : decode cc pc = .ok (.invokevirtual idx, 3)) (kk : ∀ (H1 : Heap) (locs1 : List Loc), Wh G x y H1 → va_S (gF G) H0 H1 locs1 → W p l e R s m args below meth c H1 locs1 cells slots Q (F0 m (pc + 3) ls (.ref (gA G 12 ↑v.1 ↑v.2) :: rest))) : W p l e R s m args below meth c H locs cells slots Q (F0 m pc ls (.int p1 :: .ref (gA G 2 ↑p0 0) :: rest)) := by
  refine va_callr (va_runV (As := [.int p1]) (rest := rest) ⟨hx, hb, hml, hown, htg⟩ (c_X1_jobAt l G x y p0 p1 v h) (cwV 1 htg (gd_V hlk q285 q286 q16 q287) rfl rfl rfl (by decide +kernel) ⟨hR1, hR2⟩) ⟨fun a U g mk q => ⟨q.1, q.2.1.calling, q.2.2⟩, rc_2 hK hW p0, fun U hU hW9 => ⟨rfl, hK.warm hW9, by rw [hU]; exact hW⟩⟩ rfl rfl hn rfl (lv_room hr) hdg hf) hS (fun _ _ h9 => h9) (fun _ h9 => h9) ?_
  intro u a9 t H1 locs1 ht hvm hw hB hz1 hk1 hS1
  obtain ⟨ha9, hB⟩ := hB
  replace hB : Wh G x y t.heap := hB
  rw [ht] at hB
  replace ha9 : a9 = _ := ha9
  subst ha9
  exact kk H1 locs1 hB hS1
/-! METHOD X5_zoneAt -/
def m_X5_zoneAt_b26 (p0 : Fin 10 × Fin 31) (p1 : Int32) (k26 : Int32 → Int32 → Mem → Option Int32) (x2 : Int32) (x3 : Int32) (x : Mem) : Option Int32 :=
  if x3 ≤ p1 then (some ((rem32 x2 (10 : Int32)) - (1 : Int32))) else (lt_ (x2 / (10 : Int32)) fun x2_6 => lt_ (x3 + (-1 : Int32)) fun x3_7 => k26 x2_6 x3_7 x)
def m_X5_zoneAt_l26 (p0 : Fin 10 × Fin 31) (p1 : Int32) : Nat → Int32 → Int32 → Mem → Option Int32
  | 0, _, _, _ => none
  | n + 1, x2, x3, x => m_X5_zoneAt_b26 p0 p1 (m_X5_zoneAt_l26 p0 p1 n) x2 x3 x
def m_X5_zoneAt (p0 : Fin 10 × Fin 31) (p1 : Int32) (x : Mem) : Option Int32 :=
  if p1 < 0 then (some (-1 : Int32)) else (if p1 < (x 12 ↑p0.1 ↑p0.2 2) then (lt_ (x 12 ↑p0.1 ↑p0.2 1) fun x2_3 => lt_ ((x 12 ↑p0.1 ↑p0.2 2) - (1 : Int32)) fun x3_4 => m_X5_zoneAt_l26 p0 p1 FU x2_3 x3_4 x) else (some (-1 : Int32)))
abbrev WS_X5_zoneAt : List Cond := .code yX5_zoneAt cX5_zoneAt 4 (some .int) :: wsG
abbrev RM_X5_zoneAt : Room := { frames := 0, cells := 0, slots := 0, locals := 0 }
set_option maxHeartbeats 4000000 in
set_option maxRecDepth 100000 in
theorem c_X5_zoneAt (l : Launch) (G : Geo) (x y : Mem) (p0 : Fin 10 × Fin 31) (p1 : Int32) (r : Int32) (h : m_X5_zoneAt p0 p1 x = some r) : Met l yX5_zoneAt WS_X5_zoneAt RM_X5_zoneAt (Pw G x y [.ref (gA G 12 ↑p0.1 ↑p0.2), .int p1]) (Qi G x y r) 0 0 (gF G) := by
  refine Met.ofW (cc := cX5_zoneAt) (maxL := 4) (ret := (some .int)) (by decide) rfl ?_
  intro p e s m args below meth c s₁ B hml hv
  obtain ⟨rfl, hK, hW⟩ := hv
  have hx := B.exec
  have hb := B.bytes
  have hr := B.returns
  have hts := atoms_spec (ws := WS_X5_zoneAt) B.pre
  have htg : ∀ w ∈ wsG, w.before _ s = true := fun w h => hts w (List.mem_cons_of_mem _ h)
  have hown : s.vm.findClass RX5 = some m.cls := findClass_of_methodNamed B.named
  have hlocks := B.notSynchronized
  have hS : va_S (gF G) s.heap s.heap [] := va_S.rf
  have hl := lv_entry ([.ref (gA G 12 ↑p0.1 ↑p0.2), .int p1]) (n := 4) (Nat.le_of_ble_eq_true rfl)
  rw [lg_entry_eq]
  generalize (lg_sl ([.ref (gA G 12 ↑p0.1 ↑p0.2), .int p1]) ++ List.replicate (4 - (lg_sl ([.ref (gA G 12 ↑p0.1 ↑p0.2), .int p1])).length) Slot.unset).toArray = ls at hl ⊢
  have hl : lv_has ls 4 [(0, .ref (gA G 12 ↑p0.1 ↑p0.2)), (1, .int p1)] := hl
  have hX := h
  unfold m_X5_zoneAt at hX
  have B_26 : ∀ (k26 : Int32 → Int32 → Mem → Option Int32) (hk26 : ∀ (x2 : Int32) (x3 : Int32) (x : Mem) (H : Heap) (locs : List Loc) (ls : Array Slot), Wh G x y H → va_S (gF G) s.heap H locs → lv_has ls 4 [(1, .int p1), (2, .int x2), (3, .int x3)] → k26 x2 x3 x = some r → W p l e (headSpec WS_X5_zoneAt RM_X5_zoneAt).room s m ([.ref (gA G 12 ↑p0.1 ↑p0.2), .int p1] : List Value).toArray below meth c H locs 0 0 (MQ below (Qi G x y r) ([.ref (gA G 12 ↑p0.1 ↑p0.2), .int p1] : List Value).toArray s 0 0 (gF G)) (F0 m 26 ls [])), ∀ (x2 : Int32) (x3 : Int32) (x : Mem) (H : Heap) (locs : List Loc) (ls : Array Slot), Wh G x y H → va_S (gF G) s.heap H locs → lv_has ls 4 [(1, .int p1), (2, .int x2), (3, .int x3)] → m_X5_zoneAt_b26 p0 p1 k26 x2 x3 x = some r → W p l e (headSpec WS_X5_zoneAt RM_X5_zoneAt).room s m ([.ref (gA G 12 ↑p0.1 ↑p0.2), .int p1] : List Value).toArray below meth c H locs 0 0 (MQ below (Qi G x y r) ([.ref (gA G 12 ↑p0.1 ↑p0.2), .int p1] : List Value).toArray s 0 0 (gF G)) (F0 m 26 ls []) := by
    intro k26 hk26 x2 x3 x H locs ls hW hS hl hX
    unfold m_X5_zoneAt_b26 at hX
    refine lv_iload_n hx hb dX5_zoneAt_26 rfl (lv_at hl 2 rfl) ?_
    refine lv_iload_n hx hb dX5_zoneAt_27 rfl (lv_at hl 0 rfl) ?_
    refine lv_icmp_le (tgt := 42) hx hb dX5_zoneAt_28 (by decide) (fun c5 => ?_) (fun c5 => ?_)
    · have hX := it_t hX c5
      refine lv_iload_n hx hb dX5_zoneAt_42 rfl (lv_at hl 1 rfl) ?_
      refine lv_bipush (v := (10 : Int32)) hx hb dX5_zoneAt_43 (by decide) ?_
      refine lv_irem_ hx hb dX5_zoneAt_45 (by decide) ?_
      refine lv_iconst (v := (1 : Int32)) hx hb dX5_zoneAt_46 (by decide) ?_
      refine lv_isub hx hb dX5_zoneAt_47 ?_
      have hX := Option.some.inj hX
      subst hX
      exact rt_i hx hb hr hlocks hW hS dX5_zoneAt_48
    · have hX := it_f hX c5
      refine lv_iload_n hx hb dX5_zoneAt_31 rfl (lv_at hl 1 rfl) ?_
      refine lv_bipush (v := (10 : Int32)) hx hb dX5_zoneAt_32 (by decide) ?_
      refine lv_idiv hx hb dX5_zoneAt_34 (by decide) ?_
      refine lv_topi (fun x2_6 e9 => ?_)
      have hX := lt_go hX e9
      refine lv_istore_n (lv' := [(2, .int x2_6), (1, .int p1), (3, .int x3)]) hx hb dX5_zoneAt_35 rfl hl (by decide) rfl (fun ls hl => ?_)
      obtain ⟨x3_7, e9⟩ : ∃ w : Int32, w = (x3 + (-1 : Int32)) := ⟨_, rfl⟩
      have hX := lt_go hX e9
      refine lv_iinc (v := x3_7) (lv' := [(3, .int x3_7), (2, .int x2_6), (1, .int p1)]) hx hb dX5_zoneAt_36 hl (k := 2) rfl (by rw [e9]; rfl) (by decide) rfl (fun ls hl => ?_)
      refine lv_goto (tgt := 26) hx hb dX5_zoneAt_39 (by decide) ?_
      exact hk26 _ _ _ _ _ _ hW hS (lv_sub hl [2, 1, 0] rfl) hX
  have L_26 : ∀ (n : Nat), ∀ (x2 : Int32) (x3 : Int32) (x : Mem) (H : Heap) (locs : List Loc) (ls : Array Slot), Wh G x y H → va_S (gF G) s.heap H locs → lv_has ls 4 [(1, .int p1), (2, .int x2), (3, .int x3)] → m_X5_zoneAt_l26 p0 p1 n x2 x3 x = some r → W p l e (headSpec WS_X5_zoneAt RM_X5_zoneAt).room s m ([.ref (gA G 12 ↑p0.1 ↑p0.2), .int p1] : List Value).toArray below meth c H locs 0 0 (MQ below (Qi G x y r) ([.ref (gA G 12 ↑p0.1 ↑p0.2), .int p1] : List Value).toArray s 0 0 (gF G)) (F0 m 26 ls []) := by
    intro n
    induction n with
    | zero => intro x2 x3 x H locs ls hW hS hl hX; exact no_go hX
    | succ n ih => intro x2 x3 x H locs ls hW hS hl hX; exact B_26 _ ih _ _ _ _ _ _ hW hS hl hX
  refine lv_iload_n hx hb dX5_zoneAt_0 rfl (lv_at hl 1 rfl) ?_
  refine lv_if_lt (tgt := 12) hx hb dX5_zoneAt_1 (by decide) (fun c1 => ?_) (fun c1 => ?_)
  · have hX := it_t hX c1
    refine lv_iconst (v := (-1 : Int32)) hx hb dX5_zoneAt_12 (by decide) ?_
    have hX := Option.some.inj hX
    subst hX
    exact rt_i hx hb hr hlocks hW hS dX5_zoneAt_13
  · have hX := it_f hX c1
    refine lv_iload_n hx hb dX5_zoneAt_4 rfl (lv_at hl 1 rfl) ?_
    refine lv_aload_n hx hb dX5_zoneAt_5 rfl (lv_at hl 0 rfl) ?_
    refine gf_12_2 hx hb htg hown hK hW p0 q294 dX5_zoneAt_6 ?_
    refine lv_icmp_lt (tgt := 14) hx hb dX5_zoneAt_9 (by decide) (fun c2 => ?_) (fun c2 => ?_)
    · have hX := it_t hX c2
      refine lv_aload_n hx hb dX5_zoneAt_14 rfl (lv_at hl 0 rfl) ?_
      refine gf_12_1 hx hb htg hown hK hW p0 q293 dX5_zoneAt_15 ?_
      refine lv_topi (fun x2_3 e9 => ?_)
      have hX := lt_go hX e9
      refine lv_istore_n (lv' := [(2, .int x2_3), (0, .ref (gA G 12 ↑p0.1 ↑p0.2)), (1, .int p1)]) hx hb dX5_zoneAt_18 rfl hl (by decide) rfl (fun ls hl => ?_)
      refine lv_aload_n hx hb dX5_zoneAt_19 rfl (lv_at hl 1 rfl) ?_
      refine gf_12_2 hx hb htg hown hK hW p0 q294 dX5_zoneAt_20 ?_
      refine lv_iconst (v := (1 : Int32)) hx hb dX5_zoneAt_23 (by decide) ?_
      refine lv_isub hx hb dX5_zoneAt_24 ?_
      refine lv_topi (fun x3_4 e9 => ?_)
      have hX := lt_go hX e9
      refine lv_istore_n (lv' := [(3, .int x3_4), (2, .int x2_3), (0, .ref (gA G 12 ↑p0.1 ↑p0.2)), (1, .int p1)]) hx hb dX5_zoneAt_25 rfl hl (by decide) rfl (fun ls hl => ?_)
      exact L_26 FU _ _ _ _ _ _ hW hS (lv_sub hl [3, 1, 0] rfl) hX
    · have hX := it_f hX c2
      refine lv_iconst (v := (-1 : Int32)) hx hb dX5_zoneAt_12 (by decide) ?_
      have hX := Option.some.inj hX
      subst hX
      exact rt_i hx hb hr hlocks hW hS dX5_zoneAt_13
set_option maxHeartbeats 4000000 in
theorem k_X5_zoneAt {p : Program} {l : Launch} {e : Env} {R : Room} {s : State} {m : MethodId} {args : Array Value} {below : List Frame} {meth : Method} {c : Code} {H : Heap} {locs : List Loc} {cells slots : Nat} {Q : State → Prop} {cc : ByteArray} {pc nL idx : Nat} {own : String} {ls : Array Slot} {rest : List Value} {G : Geo} {x y : Mem} {H0 : Heap} {p0 : Fin 10 × Fin 31} {p1 : Int32} {v : Int32} (hx : p.tables.exec = Jvm.exec) (hb : c.code = cc) (hml : c.maxLocals = nL) (hown : s.vm.findClass own = some m.cls) (htg : ∀ w ∈ wsG, w.before args s = true) (hK : Kt G s) (hW : Wh G x y H) (hS : va_S (gF G) H0 H locs) (h : m_X5_zoneAt p0 p1 x = some v) (hlk : Cond.methodLink own idx yX5_zoneAt ∈ wsG) (hn : ls.size = nL) (hr : (rest.map fun v => v.category).sum ≤ 8) (hR1 : 0 + 1 ≤ R.frames) (hR2 : 8 + (4 + 11) + 0 ≤ R.locals) (hf : cells ≤ R.cells ∧ slots ≤ R.slots) (hdg : decode cc pc = .ok (.invokevirtual idx, 3)) (kk : ∀ (H1 : Heap) (locs1 : List Loc), Wh G x y H1 → va_S (gF G) H0 H1 locs1 → W p l e R s m args below meth c H1 locs1 cells slots Q (F0 m (pc + 3) ls (.int v :: rest))) : W p l e R s m args below meth c H locs cells slots Q (F0 m pc ls (.int p1 :: .ref (gA G 12 ↑p0.1 ↑p0.2) :: rest)) := by
  refine va_calli (va_runV (As := [.int p1]) (rest := rest) ⟨hx, hb, hml, hown, htg⟩ (c_X5_zoneAt l G x y p0 p1 v h) (cwV 1 htg (gd_V hlk q652 q653 q55 q654) rfl rfl rfl (by decide +kernel) ⟨hR1, hR2⟩) ⟨fun a U g mk q => ⟨q.1, q.2.1.calling, q.2.2⟩, rc_12 hK hW p0, fun U hU hW9 => ⟨rfl, hK.warm hW9, by rw [hU]; exact hW⟩⟩ rfl rfl hn rfl (lv_room hr) hdg hf) hS (fun _ _ h9 => h9) (fun _ h9 => h9) ?_
  intro r9 u t H1 locs1 ht hvm hw hB hz1 hk1 hS1
  replace hB : Wh G x y t.heap := hB
  rw [ht] at hB
  replace hw : r9 = v := hw
  subst hw
  exact kk H1 locs1 hB hS1
/-! METHOD X1_aboutArm -/
def m_X1_aboutArm (p0 : Fin 10) (p1 : Fin 10 × Fin 4) (p2 : Int32) (x : Mem) : Option Int32 :=
  if p2 = (0 : Int32) then (some (x 0 ↑p1.1 ↑p1.2 1)) else if p2 = (1 : Int32) then (some (x 0 ↑p1.1 ↑p1.2 2)) else if p2 = (2 : Int32) then (some (x 0 ↑p1.1 ↑p1.2 3)) else if p2 = (3 : Int32) then (some (x 0 ↑p1.1 ↑p1.2 12)) else if p2 = (4 : Int32) then (bd_ (m_X1_jobAt p0 (x 0 ↑p1.1 ↑p1.2 3)) fun r7 => bd_ (m_X5_zoneAt r7 (x 0 ↑p1.1 ↑p1.2 4) x) fun r9 => some r9) else if p2 = (5 : Int32) then (some (x 0 ↑p1.1 ↑p1.2 5)) else if p2 = (6 : Int32) then (some (x 0 ↑p1.1 ↑p1.2 7)) else if p2 = (7 : Int32) then (some (x 0 ↑p1.1 ↑p1.2 6)) else if p2 = (8 : Int32) then (some (x 0 ↑p1.1 ↑p1.2 10)) else (some (x 0 ↑p1.1 ↑p1.2 11))
abbrev WS_X1_aboutArm : List Cond := .code yX1_aboutArm cX1_aboutArm 3 (some .int) :: wsG
abbrev RM_X1_aboutArm : Room := { frames := 1, cells := 0, slots := 0, locals := 23 }
set_option maxHeartbeats 4000000 in
set_option maxRecDepth 100000 in
theorem c_X1_aboutArm (l : Launch) (G : Geo) (x y : Mem) (p0 : Fin 10) (p1 : Fin 10 × Fin 4) (p2 : Int32) (r : Int32) (h : m_X1_aboutArm p0 p1 p2 x = some r) : Met l yX1_aboutArm WS_X1_aboutArm RM_X1_aboutArm (Pw G x y [.ref (gA G 2 ↑p0 0), .ref (gA G 0 ↑p1.1 ↑p1.2), .int p2]) (Qi G x y r) 0 0 (gF G) := by
  refine Met.ofW (cc := cX1_aboutArm) (maxL := 3) (ret := (some .int)) (by decide) rfl ?_
  intro p e s m args below meth c s₁ B hml hv
  obtain ⟨rfl, hK, hW⟩ := hv
  have hx := B.exec
  have hb := B.bytes
  have hr := B.returns
  have hts := atoms_spec (ws := WS_X1_aboutArm) B.pre
  have htg : ∀ w ∈ wsG, w.before _ s = true := fun w h => hts w (List.mem_cons_of_mem _ h)
  have hown : s.vm.findClass RX1 = some m.cls := findClass_of_methodNamed B.named
  have hlocks := B.notSynchronized
  have hS : va_S (gF G) s.heap s.heap [] := va_S.rf
  have hl := lv_entry ([.ref (gA G 2 ↑p0 0), .ref (gA G 0 ↑p1.1 ↑p1.2), .int p2]) (n := 3) (Nat.le_of_ble_eq_true rfl)
  rw [lg_entry_eq]
  generalize (lg_sl ([.ref (gA G 2 ↑p0 0), .ref (gA G 0 ↑p1.1 ↑p1.2), .int p2]) ++ List.replicate (3 - (lg_sl ([.ref (gA G 2 ↑p0 0), .ref (gA G 0 ↑p1.1 ↑p1.2), .int p2])).length) Slot.unset).toArray = ls at hl ⊢
  have hl : lv_has ls 3 [(0, .ref (gA G 2 ↑p0 0)), (1, .ref (gA G 0 ↑p1.1 ↑p1.2)), (2, .int p2)] := hl
  have hX := h
  unfold m_X1_aboutArm at hX
  refine lv_iload_n hx hb dX1_aboutArm_0 rfl (lv_at hl 2 rfl) ?_
  by_cases c1 : p2 = (0 : Int32)
  · have hX := it_t hX c1
    refine lv_tsIn (v := (0 : Int32)) (tgt := 52) hx hb dX1_aboutArm_1 c1 rfl (by decide) (by decide) rfl (by decide) ?_
    refine lv_aload_n hx hb dX1_aboutArm_52 rfl (lv_at hl 1 rfl) ?_
    refine gf_0_1 hx hb htg hown hK hW p1 q477 dX1_aboutArm_53 ?_
    have hX := Option.some.inj hX
    subst hX
    exact rt_i hx hb hr hlocks hW hS dX1_aboutArm_56
  have hX := it_f hX c1
  by_cases c2 : p2 = (1 : Int32)
  · have hX := it_t hX c2
    refine lv_tsIn (v := (1 : Int32)) (tgt := 57) hx hb dX1_aboutArm_1 c2 rfl (by decide) (by decide) rfl (by decide) ?_
    refine lv_aload_n hx hb dX1_aboutArm_57 rfl (lv_at hl 1 rfl) ?_
    refine gf_0_2 hx hb htg hown hK hW p1 q643 dX1_aboutArm_58 ?_
    have hX := Option.some.inj hX
    subst hX
    exact rt_i hx hb hr hlocks hW hS dX1_aboutArm_61
  have hX := it_f hX c2
  by_cases c3 : p2 = (2 : Int32)
  · have hX := it_t hX c3
    refine lv_tsIn (v := (2 : Int32)) (tgt := 62) hx hb dX1_aboutArm_1 c3 rfl (by decide) (by decide) rfl (by decide) ?_
    refine lv_aload_n hx hb dX1_aboutArm_62 rfl (lv_at hl 1 rfl) ?_
    refine gf_0_3 hx hb htg hown hK hW p1 q644 dX1_aboutArm_63 ?_
    have hX := Option.some.inj hX
    subst hX
    exact rt_i hx hb hr hlocks hW hS dX1_aboutArm_66
  have hX := it_f hX c3
  by_cases c4 : p2 = (3 : Int32)
  · have hX := it_t hX c4
    refine lv_tsIn (v := (3 : Int32)) (tgt := 67) hx hb dX1_aboutArm_1 c4 rfl (by decide) (by decide) rfl (by decide) ?_
    refine lv_aload_n hx hb dX1_aboutArm_67 rfl (lv_at hl 1 rfl) ?_
    refine gf_0_12 hx hb htg hown hK hW p1 q645 dX1_aboutArm_68 ?_
    have hX := Option.some.inj hX
    subst hX
    exact rt_i hx hb hr hlocks hW hS dX1_aboutArm_71
  have hX := it_f hX c4
  by_cases c5 : p2 = (4 : Int32)
  · have hX := it_t hX c5
    refine lv_tsIn (v := (4 : Int32)) (tgt := 72) hx hb dX1_aboutArm_1 c5 rfl (by decide) (by decide) rfl (by decide) ?_
    refine lv_aload_n hx hb dX1_aboutArm_72 rfl (lv_at hl 0 rfl) ?_
    refine lv_aload_n hx hb dX1_aboutArm_73 rfl (lv_at hl 1 rfl) ?_
    refine gf_0_3 hx hb htg hown hK hW p1 q644 dX1_aboutArm_74 ?_
    obtain ⟨r7, h6, hX⟩ := bd_go hX
    refine k_X1_jobAt hx hb hml hown htg hK hW hS h6 q284 hl.1 (Nat.le_of_ble_eq_true rfl) (Nat.le_of_ble_eq_true rfl) (Nat.le_of_ble_eq_true rfl) ⟨Nat.zero_le _, Nat.zero_le _⟩ dX1_aboutArm_77 (fun H locs hW hS => ?_)
    refine lv_aload_n hx hb dX1_aboutArm_80 rfl (lv_at hl 1 rfl) ?_
    refine gf_0_4 hx hb htg hown hK hW p1 q646 dX1_aboutArm_81 ?_
    obtain ⟨r9, h8, hX⟩ := bd_go hX
    refine k_X5_zoneAt hx hb hml hown htg hK hW hS h8 q651 hl.1 (Nat.le_of_ble_eq_true rfl) (Nat.le_of_ble_eq_true rfl) (Nat.le_of_ble_eq_true rfl) ⟨Nat.zero_le _, Nat.zero_le _⟩ dX1_aboutArm_84 (fun H locs hW hS => ?_)
    have hX := Option.some.inj hX
    subst hX
    exact rt_i hx hb hr hlocks hW hS dX1_aboutArm_87
  have hX := it_f hX c5
  by_cases c10 : p2 = (5 : Int32)
  · have hX := it_t hX c10
    refine lv_tsIn (v := (5 : Int32)) (tgt := 88) hx hb dX1_aboutArm_1 c10 rfl (by decide) (by decide) rfl (by decide) ?_
    refine lv_aload_n hx hb dX1_aboutArm_88 rfl (lv_at hl 1 rfl) ?_
    refine gf_0_5 hx hb htg hown hK hW p1 q647 dX1_aboutArm_89 ?_
    have hX := Option.some.inj hX
    subst hX
    exact rt_i hx hb hr hlocks hW hS dX1_aboutArm_92
  have hX := it_f hX c10
  by_cases c11 : p2 = (6 : Int32)
  · have hX := it_t hX c11
    refine lv_tsIn (v := (6 : Int32)) (tgt := 93) hx hb dX1_aboutArm_1 c11 rfl (by decide) (by decide) rfl (by decide) ?_
    refine lv_aload_n hx hb dX1_aboutArm_93 rfl (lv_at hl 1 rfl) ?_
    refine gf_0_7 hx hb htg hown hK hW p1 q648 dX1_aboutArm_94 ?_
    have hX := Option.some.inj hX
    subst hX
    exact rt_i hx hb hr hlocks hW hS dX1_aboutArm_97
  have hX := it_f hX c11
  by_cases c12 : p2 = (7 : Int32)
  · have hX := it_t hX c12
    refine lv_tsIn (v := (7 : Int32)) (tgt := 98) hx hb dX1_aboutArm_1 c12 rfl (by decide) (by decide) rfl (by decide) ?_
    refine lv_aload_n hx hb dX1_aboutArm_98 rfl (lv_at hl 1 rfl) ?_
    refine gf_0_6 hx hb htg hown hK hW p1 q209 dX1_aboutArm_99 ?_
    have hX := Option.some.inj hX
    subst hX
    exact rt_i hx hb hr hlocks hW hS dX1_aboutArm_102
  have hX := it_f hX c12
  by_cases c13 : p2 = (8 : Int32)
  · have hX := it_t hX c13
    refine lv_tsIn (v := (8 : Int32)) (tgt := 103) hx hb dX1_aboutArm_1 c13 rfl (by decide) (by decide) rfl (by decide) ?_
    refine lv_aload_n hx hb dX1_aboutArm_103 rfl (lv_at hl 1 rfl) ?_
    refine gf_0_10 hx hb htg hown hK hW p1 q649 dX1_aboutArm_104 ?_
    have hX := Option.some.inj hX
    subst hX
    exact rt_i hx hb hr hlocks hW hS dX1_aboutArm_107
  have hX := it_f hX c13
  refine lv_tsOut (n := 8) (tgt := 108) hx hb dX1_aboutArm_1 (by decide) (fun j hj => match j, hj with | 0, _ => c1 | 1, _ => c2 | 2, _ => c3 | 3, _ => c4 | 4, _ => c5 | 5, _ => c10 | 6, _ => c11 | 7, _ => c12 | 8, _ => c13 | j + 9, hj => absurd hj (by omega)) (by decide) ?_
  refine lv_aload_n hx hb dX1_aboutArm_108 rfl (lv_at hl 1 rfl) ?_
  refine gf_0_11 hx hb htg hown hK hW p1 q650 dX1_aboutArm_109 ?_
  have hX := Option.some.inj hX
  subst hX
  exact rt_i hx hb hr hlocks hW hS dX1_aboutArm_112
set_option maxHeartbeats 4000000 in
theorem k_X1_aboutArm {p : Program} {l : Launch} {e : Env} {R : Room} {s : State} {m : MethodId} {args : Array Value} {below : List Frame} {meth : Method} {c : Code} {H : Heap} {locs : List Loc} {cells slots : Nat} {Q : State → Prop} {cc : ByteArray} {pc nL idx : Nat} {own : String} {ls : Array Slot} {rest : List Value} {G : Geo} {x y : Mem} {H0 : Heap} {p0 : Fin 10} {p1 : Fin 10 × Fin 4} {p2 : Int32} {v : Int32} (hx : p.tables.exec = Jvm.exec) (hb : c.code = cc) (hml : c.maxLocals = nL) (hown : s.vm.findClass own = some m.cls) (htg : ∀ w ∈ wsG, w.before args s = true) (hK : Kt G s) (hW : Wh G x y H) (hS : va_S (gF G) H0 H locs) (h : m_X1_aboutArm p0 p1 p2 x = some v) (hlk : Cond.methodLink own idx yX1_aboutArm ∈ wsG) (hn : ls.size = nL) (hr : (rest.map fun v => v.category).sum ≤ 8) (hR1 : 1 + 1 ≤ R.frames) (hR2 : 8 + (3 + 11) + 23 ≤ R.locals) (hf : cells ≤ R.cells ∧ slots ≤ R.slots) (hdg : decode cc pc = .ok (.invokevirtual idx, 3)) (kk : ∀ (H1 : Heap) (locs1 : List Loc), Wh G x y H1 → va_S (gF G) H0 H1 locs1 → W p l e R s m args below meth c H1 locs1 cells slots Q (F0 m (pc + 3) ls (.int v :: rest))) : W p l e R s m args below meth c H locs cells slots Q (F0 m pc ls (.int p2 :: .ref (gA G 0 ↑p1.1 ↑p1.2) :: .ref (gA G 2 ↑p0 0) :: rest)) := by
  refine va_calli (va_runV (As := [.ref (gA G 0 ↑p1.1 ↑p1.2), .int p2]) (rest := rest) ⟨hx, hb, hml, hown, htg⟩ (c_X1_aboutArm l G x y p0 p1 p2 v h) (cwV 2 htg (gd_V hlk q640 q641 q16 q642) rfl rfl rfl (by decide +kernel) ⟨hR1, hR2⟩) ⟨fun a U g mk q => ⟨q.1, q.2.1.calling, q.2.2⟩, rc_2 hK hW p0, fun U hU hW9 => ⟨rfl, hK.warm hW9, by rw [hU]; exact hW⟩⟩ rfl rfl hn rfl (lv_room hr) hdg hf) hS (fun _ _ h9 => h9) (fun _ h9 => h9) ?_
  intro r9 u t H1 locs1 ht hvm hw hB hz1 hk1 hS1
  replace hB : Wh G x y t.heap := hB
  rw [ht] at hB
  replace hw : r9 = v := hw
  subst hw
  exact kk H1 locs1 hB hS1
/-! METHOD X1_armAt -/
def m_X1_armAt (p0 : Fin 10) (p1 : Int32) : Option (Fin 10 × Fin 4) :=
  if p1 < 0 then (some ((p0, 3) : Fin 10 × Fin 4)) else (if (3 : Int32) ≤ p1 then (some ((p0, 3) : Fin 10 × Fin 4)) else (gd_ p1 3 (lt_ (el_8 p0 p1) fun o4 => lt_ (el_8 p0 p1) fun o5 => some o5)))
abbrev WS_X1_armAt : List Cond := .code yX1_armAt cX1_armAt 2 (some (.object "RobotCell$Arm")) :: wsG
abbrev RM_X1_armAt : Room := { frames := 0, cells := 0, slots := 0, locals := 0 }
set_option maxHeartbeats 4000000 in
set_option maxRecDepth 100000 in
theorem c_X1_armAt (l : Launch) (G : Geo) (x y : Mem) (p0 : Fin 10) (p1 : Int32) (r : (Fin 10 × Fin 4)) (h : m_X1_armAt p0 p1 = some r) : Met l yX1_armAt WS_X1_armAt RM_X1_armAt (Pw G x y [.ref (gA G 2 ↑p0 0), .int p1]) (Qr G x y (gA G 0 ↑r.1 ↑r.2)) 0 0 (gF G) := by
  refine Met.ofW (cc := cX1_armAt) (maxL := 2) (ret := (some (.object "RobotCell$Arm"))) (by decide) rfl ?_
  intro p e s m args below meth c s₁ B hml hv
  obtain ⟨rfl, hK, hW⟩ := hv
  have hx := B.exec
  have hb := B.bytes
  have hr := B.returns
  have hts := atoms_spec (ws := WS_X1_armAt) B.pre
  have htg : ∀ w ∈ wsG, w.before _ s = true := fun w h => hts w (List.mem_cons_of_mem _ h)
  have hown : s.vm.findClass RX1 = some m.cls := findClass_of_methodNamed B.named
  have hlocks := B.notSynchronized
  have hS : va_S (gF G) s.heap s.heap [] := va_S.rf
  have hl := lv_entry ([.ref (gA G 2 ↑p0 0), .int p1]) (n := 2) (Nat.le_of_ble_eq_true rfl)
  rw [lg_entry_eq]
  generalize (lg_sl ([.ref (gA G 2 ↑p0 0), .int p1]) ++ List.replicate (2 - (lg_sl ([.ref (gA G 2 ↑p0 0), .int p1])).length) Slot.unset).toArray = ls at hl ⊢
  have hl : lv_has ls 2 [(0, .ref (gA G 2 ↑p0 0)), (1, .int p1)] := hl
  have hX := h
  unfold m_X1_armAt at hX
  refine lv_iload_n hx hb dX1_armAt_0 rfl (lv_at hl 1 rfl) ?_
  refine lv_if_lt (tgt := 31) hx hb dX1_armAt_1 (by decide) (fun c1 => ?_) (fun c1 => ?_)
  · have hX := it_t hX c1
    refine lv_aload_n hx hb dX1_armAt_31 rfl (lv_at hl 0 rfl) ?_
    refine gf_2_10 hx hb htg hown hK hW p0 q48 dX1_armAt_32 ?_
    have hX := Option.some.inj hX
    subst hX
    exact rt_r hx hb hr hlocks hW hS dX1_armAt_35
  · have hX := it_f hX c1
    refine lv_iload_n hx hb dX1_armAt_4 rfl (lv_at hl 1 rfl) ?_
    refine lv_aload_n hx hb dX1_armAt_5 rfl (lv_at hl 0 rfl) ?_
    refine gf_2_9 hx hb htg hown hK hW p0 q57 dX1_armAt_6 ?_
    refine an_8 hx hb hK hW p0 dX1_armAt_9 ?_
    refine lv_icmp_ge (tgt := 31) hx hb dX1_armAt_10 (by decide) (fun c2 => ?_) (fun c2 => ?_)
    · have hX := it_t hX c2
      refine lv_aload_n hx hb dX1_armAt_31 rfl (lv_at hl 0 rfl) ?_
      refine gf_2_10 hx hb htg hown hK hW p0 q48 dX1_armAt_32 ?_
      have hX := Option.some.inj hX
      subst hX
      exact rt_r hx hb hr hlocks hW hS dX1_armAt_35
    · have hX := it_f hX c2
      refine lv_aload_n hx hb dX1_armAt_13 rfl (lv_at hl 0 rfl) ?_
      refine gf_2_9 hx hb htg hown hK hW p0 q57 dX1_armAt_14 ?_
      refine lv_iload_n hx hb dX1_armAt_17 rfl (lv_at hl 1 rfl) ?_
      obtain ⟨g3, hX⟩ := gd_go hX
      refine ae_8 hx hb hK hW p0 g3 dX1_armAt_18 ?_
      obtain ⟨o4, e9⟩ : ∃ w, w = (el_8 p0 p1) := ⟨_, rfl⟩
      rw [← e9]
      have hX := lt_go hX e9
      refine lv_ifnull hx hb dX1_armAt_19 ?_
      refine lv_aload_n hx hb dX1_armAt_22 rfl (lv_at hl 0 rfl) ?_
      refine gf_2_9 hx hb htg hown hK hW p0 q57 dX1_armAt_23 ?_
      refine lv_iload_n hx hb dX1_armAt_26 rfl (lv_at hl 1 rfl) ?_
      refine ae_8 hx hb hK hW p0 g3 dX1_armAt_27 ?_
      obtain ⟨o5, e9⟩ : ∃ w, w = (el_8 p0 p1) := ⟨_, rfl⟩
      rw [← e9]
      have hX := lt_go hX e9
      refine lv_goto (tgt := 35) hx hb dX1_armAt_28 (by decide) ?_
      have hX := Option.some.inj hX
      subst hX
      exact rt_r hx hb hr hlocks hW hS dX1_armAt_35
set_option maxHeartbeats 4000000 in
theorem k_X1_armAt {p : Program} {l : Launch} {e : Env} {R : Room} {s : State} {m : MethodId} {args : Array Value} {below : List Frame} {meth : Method} {c : Code} {H : Heap} {locs : List Loc} {cells slots : Nat} {Q : State → Prop} {cc : ByteArray} {pc nL idx : Nat} {own : String} {ls : Array Slot} {rest : List Value} {G : Geo} {x y : Mem} {H0 : Heap} {p0 : Fin 10} {p1 : Int32} {v : (Fin 10 × Fin 4)} (hx : p.tables.exec = Jvm.exec) (hb : c.code = cc) (hml : c.maxLocals = nL) (hown : s.vm.findClass own = some m.cls) (htg : ∀ w ∈ wsG, w.before args s = true) (hK : Kt G s) (hW : Wh G x y H) (hS : va_S (gF G) H0 H locs) (h : m_X1_armAt p0 p1 = some v) (hlk : Cond.methodLink own idx yX1_armAt ∈ wsG) (hn : ls.size = nL) (hr : (rest.map fun v => v.category).sum ≤ 8) (hR1 : 0 + 1 ≤ R.frames) (hR2 : 8 + (2 + 11) + 0 ≤ R.locals) (hf : cells ≤ R.cells ∧ slots ≤ R.slots) (hdg : decode cc pc = .ok (.invokevirtual idx, 3)) (kk : ∀ (H1 : Heap) (locs1 : List Loc), Wh G x y H1 → va_S (gF G) H0 H1 locs1 → W p l e R s m args below meth c H1 locs1 cells slots Q (F0 m (pc + 3) ls (.ref (gA G 0 ↑v.1 ↑v.2) :: rest))) : W p l e R s m args below meth c H locs cells slots Q (F0 m pc ls (.int p1 :: .ref (gA G 2 ↑p0 0) :: rest)) := by
  refine va_callr (va_runV (As := [.int p1]) (rest := rest) ⟨hx, hb, hml, hown, htg⟩ (c_X1_armAt l G x y p0 p1 v h) (cwV 1 htg (gd_V hlk q211 q212 q16 q213) rfl rfl rfl (by decide +kernel) ⟨hR1, hR2⟩) ⟨fun a U g mk q => ⟨q.1, q.2.1.calling, q.2.2⟩, rc_2 hK hW p0, fun U hU hW9 => ⟨rfl, hK.warm hW9, by rw [hU]; exact hW⟩⟩ rfl rfl hn rfl (lv_room hr) hdg hf) hS (fun _ _ h9 => h9) (fun _ h9 => h9) ?_
  intro u a9 t H1 locs1 ht hvm hw hB hz1 hk1 hS1
  obtain ⟨ha9, hB⟩ := hB
  replace hB : Wh G x y t.heap := hB
  rw [ht] at hB
  replace ha9 : a9 = _ := ha9
  subst ha9
  exact kk H1 locs1 hB hS1
/-! METHOD X1_holderOf -/
def m_X1_holderOf_b2 (p0 : Fin 10) (p1 : Int32) (k2 : Int32 → Mem → Option Int32) (x2 : Int32) (x : Mem) : Option Int32 :=
  if (3 : Int32) ≤ x2 then (some (-1 : Int32)) else (bd_ (m_X1_armAt p0 x2) fun r4 => if ((x 0 ↑r4.1 ↑r4.2 6) &&& (shl32 (1 : Int32) p1)) = 0 then (lt_ (x2 + (1 : Int32)) fun x2_6 => k2 x2_6 x) else (some x2))
def m_X1_holderOf_l2 (p0 : Fin 10) (p1 : Int32) : Nat → Int32 → Mem → Option Int32
  | 0, _, _ => none
  | n + 1, x2, x => m_X1_holderOf_b2 p0 p1 (m_X1_holderOf_l2 p0 p1 n) x2 x
def m_X1_holderOf (p0 : Fin 10) (p1 : Int32) (x : Mem) : Option Int32 :=
  lt_ (0 : Int32) fun x2_1 => m_X1_holderOf_l2 p0 p1 FU x2_1 x
abbrev WS_X1_holderOf : List Cond := .code yX1_holderOf cX1_holderOf 3 (some .int) :: wsG
abbrev RM_X1_holderOf : Room := { frames := 1, cells := 0, slots := 0, locals := 21 }
set_option maxHeartbeats 4000000 in
set_option maxRecDepth 100000 in
theorem c_X1_holderOf (l : Launch) (G : Geo) (x y : Mem) (p0 : Fin 10) (p1 : Int32) (r : Int32) (h : m_X1_holderOf p0 p1 x = some r) : Met l yX1_holderOf WS_X1_holderOf RM_X1_holderOf (Pw G x y [.ref (gA G 2 ↑p0 0), .int p1]) (Qi G x y r) 0 0 (gF G) := by
  refine Met.ofW (cc := cX1_holderOf) (maxL := 3) (ret := (some .int)) (by decide) rfl ?_
  intro p e s m args below meth c s₁ B hml hv
  obtain ⟨rfl, hK, hW⟩ := hv
  have hx := B.exec
  have hb := B.bytes
  have hr := B.returns
  have hts := atoms_spec (ws := WS_X1_holderOf) B.pre
  have htg : ∀ w ∈ wsG, w.before _ s = true := fun w h => hts w (List.mem_cons_of_mem _ h)
  have hown : s.vm.findClass RX1 = some m.cls := findClass_of_methodNamed B.named
  have hlocks := B.notSynchronized
  have hS : va_S (gF G) s.heap s.heap [] := va_S.rf
  have hl := lv_entry ([.ref (gA G 2 ↑p0 0), .int p1]) (n := 3) (Nat.le_of_ble_eq_true rfl)
  rw [lg_entry_eq]
  generalize (lg_sl ([.ref (gA G 2 ↑p0 0), .int p1]) ++ List.replicate (3 - (lg_sl ([.ref (gA G 2 ↑p0 0), .int p1])).length) Slot.unset).toArray = ls at hl ⊢
  have hl : lv_has ls 3 [(0, .ref (gA G 2 ↑p0 0)), (1, .int p1)] := hl
  have hX := h
  unfold m_X1_holderOf at hX
  have B_2 : ∀ (k2 : Int32 → Mem → Option Int32) (hk2 : ∀ (x2 : Int32) (x : Mem) (H : Heap) (locs : List Loc) (ls : Array Slot), Wh G x y H → va_S (gF G) s.heap H locs → lv_has ls 3 [(0, .ref (gA G 2 ↑p0 0)), (1, .int p1), (2, .int x2)] → k2 x2 x = some r → W p l e (headSpec WS_X1_holderOf RM_X1_holderOf).room s m ([.ref (gA G 2 ↑p0 0), .int p1] : List Value).toArray below meth c H locs 0 0 (MQ below (Qi G x y r) ([.ref (gA G 2 ↑p0 0), .int p1] : List Value).toArray s 0 0 (gF G)) (F0 m 2 ls [])), ∀ (x2 : Int32) (x : Mem) (H : Heap) (locs : List Loc) (ls : Array Slot), Wh G x y H → va_S (gF G) s.heap H locs → lv_has ls 3 [(0, .ref (gA G 2 ↑p0 0)), (1, .int p1), (2, .int x2)] → m_X1_holderOf_b2 p0 p1 k2 x2 x = some r → W p l e (headSpec WS_X1_holderOf RM_X1_holderOf).room s m ([.ref (gA G 2 ↑p0 0), .int p1] : List Value).toArray below meth c H locs 0 0 (MQ below (Qi G x y r) ([.ref (gA G 2 ↑p0 0), .int p1] : List Value).toArray s 0 0 (gF G)) (F0 m 2 ls []) := by
    intro k2 hk2 x2 x H locs ls hW hS hl hX
    unfold m_X1_holderOf_b2 at hX
    refine lv_iload_n hx hb dX1_holderOf_2 rfl (lv_at hl 2 rfl) ?_
    refine lv_iconst (v := (3 : Int32)) hx hb dX1_holderOf_3 (by decide) ?_
    refine lv_icmp_ge (tgt := 30) hx hb dX1_holderOf_4 (by decide) (fun c2 => ?_) (fun c2 => ?_)
    · have hX := it_t hX c2
      refine lv_iconst (v := (-1 : Int32)) hx hb dX1_holderOf_30 (by decide) ?_
      have hX := Option.some.inj hX
      subst hX
      exact rt_i hx hb hr hlocks hW hS dX1_holderOf_31
    · have hX := it_f hX c2
      refine lv_aload_n hx hb dX1_holderOf_7 rfl (lv_at hl 0 rfl) ?_
      refine lv_iload_n hx hb dX1_holderOf_8 rfl (lv_at hl 2 rfl) ?_
      obtain ⟨r4, h3, hX⟩ := bd_go hX
      refine k_X1_armAt hx hb hml hown htg hK hW hS h3 q210 hl.1 (Nat.le_of_ble_eq_true rfl) (Nat.le_of_ble_eq_true rfl) (Nat.le_of_ble_eq_true rfl) ⟨Nat.zero_le _, Nat.zero_le _⟩ dX1_holderOf_9 (fun H locs hW hS => ?_)
      refine gf_0_6 hx hb htg hown hK hW r4 q209 dX1_holderOf_12 ?_
      refine lv_iconst (v := (1 : Int32)) hx hb dX1_holderOf_15 (by decide) ?_
      refine lv_iload_n hx hb dX1_holderOf_16 rfl (lv_at hl 1 rfl) ?_
      refine lv_ishl_ hx hb dX1_holderOf_17 ?_
      refine lv_iand hx hb dX1_holderOf_18 ?_
      refine lv_if_eq (tgt := 24) hx hb dX1_holderOf_19 (by decide) (fun c5 => ?_) (fun c5 => ?_)
      · have hX := it_t hX c5
        obtain ⟨x2_6, e9⟩ : ∃ w : Int32, w = (x2 + (1 : Int32)) := ⟨_, rfl⟩
        have hX := lt_go hX e9
        refine lv_iinc (v := x2_6) (lv' := [(2, .int x2_6), (0, .ref (gA G 2 ↑p0 0)), (1, .int p1)]) hx hb dX1_holderOf_24 hl (k := 2) rfl (by rw [e9]; rfl) (by decide) rfl (fun ls hl => ?_)
        refine lv_goto (tgt := 2) hx hb dX1_holderOf_27 (by decide) ?_
        exact hk2 _ _ _ _ _ hW hS (lv_sub hl [1, 2, 0] rfl) hX
      · have hX := it_f hX c5
        refine lv_iload_n hx hb dX1_holderOf_22 rfl (lv_at hl 2 rfl) ?_
        have hX := Option.some.inj hX
        subst hX
        exact rt_i hx hb hr hlocks hW hS dX1_holderOf_23
  have L_2 : ∀ (n : Nat), ∀ (x2 : Int32) (x : Mem) (H : Heap) (locs : List Loc) (ls : Array Slot), Wh G x y H → va_S (gF G) s.heap H locs → lv_has ls 3 [(0, .ref (gA G 2 ↑p0 0)), (1, .int p1), (2, .int x2)] → m_X1_holderOf_l2 p0 p1 n x2 x = some r → W p l e (headSpec WS_X1_holderOf RM_X1_holderOf).room s m ([.ref (gA G 2 ↑p0 0), .int p1] : List Value).toArray below meth c H locs 0 0 (MQ below (Qi G x y r) ([.ref (gA G 2 ↑p0 0), .int p1] : List Value).toArray s 0 0 (gF G)) (F0 m 2 ls []) := by
    intro n
    induction n with
    | zero => intro x2 x H locs ls hW hS hl hX; exact no_go hX
    | succ n ih => intro x2 x H locs ls hW hS hl hX; exact B_2 _ ih _ _ _ _ _ hW hS hl hX
  refine lv_iconst (v := (0 : Int32)) hx hb dX1_holderOf_0 (by decide) ?_
  refine lv_topi (fun x2_1 e9 => ?_)
  have hX := lt_go hX e9
  refine lv_istore_n (lv' := [(2, .int x2_1), (0, .ref (gA G 2 ↑p0 0)), (1, .int p1)]) hx hb dX1_holderOf_1 rfl hl (by decide) rfl (fun ls hl => ?_)
  exact L_2 FU _ _ _ _ _ hW hS (lv_sub hl [1, 2, 0] rfl) hX
set_option maxHeartbeats 4000000 in
theorem k_X1_holderOf {p : Program} {l : Launch} {e : Env} {R : Room} {s : State} {m : MethodId} {args : Array Value} {below : List Frame} {meth : Method} {c : Code} {H : Heap} {locs : List Loc} {cells slots : Nat} {Q : State → Prop} {cc : ByteArray} {pc nL idx : Nat} {own : String} {ls : Array Slot} {rest : List Value} {G : Geo} {x y : Mem} {H0 : Heap} {p0 : Fin 10} {p1 : Int32} {v : Int32} (hx : p.tables.exec = Jvm.exec) (hb : c.code = cc) (hml : c.maxLocals = nL) (hown : s.vm.findClass own = some m.cls) (htg : ∀ w ∈ wsG, w.before args s = true) (hK : Kt G s) (hW : Wh G x y H) (hS : va_S (gF G) H0 H locs) (h : m_X1_holderOf p0 p1 x = some v) (hlk : Cond.methodLink own idx yX1_holderOf ∈ wsG) (hn : ls.size = nL) (hr : (rest.map fun v => v.category).sum ≤ 8) (hR1 : 1 + 1 ≤ R.frames) (hR2 : 8 + (3 + 11) + 21 ≤ R.locals) (hf : cells ≤ R.cells ∧ slots ≤ R.slots) (hdg : decode cc pc = .ok (.invokevirtual idx, 3)) (kk : ∀ (H1 : Heap) (locs1 : List Loc), Wh G x y H1 → va_S (gF G) H0 H1 locs1 → W p l e R s m args below meth c H1 locs1 cells slots Q (F0 m (pc + 3) ls (.int v :: rest))) : W p l e R s m args below meth c H locs cells slots Q (F0 m pc ls (.int p1 :: .ref (gA G 2 ↑p0 0) :: rest)) := by
  refine va_calli (va_runV (As := [.int p1]) (rest := rest) ⟨hx, hb, hml, hown, htg⟩ (c_X1_holderOf l G x y p0 p1 v h) (cwV 1 htg (gd_V hlk q206 q207 q16 q208) rfl rfl rfl (by decide +kernel) ⟨hR1, hR2⟩) ⟨fun a U g mk q => ⟨q.1, q.2.1.calling, q.2.2⟩, rc_2 hK hW p0, fun U hU hW9 => ⟨rfl, hK.warm hW9, by rw [hU]; exact hW⟩⟩ rfl rfl hn rfl (lv_room hr) hdg hf) hS (fun _ _ h9 => h9) (fun _ h9 => h9) ?_
  intro r9 u t H1 locs1 ht hvm hw hB hz1 hk1 hS1
  replace hB : Wh G x y t.heap := hB
  rw [ht] at hB
  replace hw : r9 = v := hw
  subst hw
  exact kk H1 locs1 hB hS1
/-! METHOD X10_conflictsOf -/
def m_X10_conflictsOf (p0 : Fin 10) (p1 : Int32) (x : Mem) : Option Int32 :=
  if p1 < 0 then (some (0 : Int32)) else (if (8 : Int32) ≤ p1 then (some (0 : Int32)) else (gd_ p1 8 (some (x 4 ↑p0 0 p1.toNatClampNeg))))
abbrev WS_X10_conflictsOf : List Cond := .code yX10_conflictsOf cX10_conflictsOf 2 (some .int) :: wsG
abbrev RM_X10_conflictsOf : Room := { frames := 0, cells := 0, slots := 0, locals := 0 }
set_option maxHeartbeats 4000000 in
set_option maxRecDepth 100000 in
theorem c_X10_conflictsOf (l : Launch) (G : Geo) (x y : Mem) (p0 : Fin 10) (p1 : Int32) (r : Int32) (h : m_X10_conflictsOf p0 p1 x = some r) : Met l yX10_conflictsOf WS_X10_conflictsOf RM_X10_conflictsOf (Pw G x y [.ref (gA G 3 ↑p0 0), .int p1]) (Qi G x y r) 0 0 (gF G) := by
  refine Met.ofW (cc := cX10_conflictsOf) (maxL := 2) (ret := (some .int)) (by decide) rfl ?_
  intro p e s m args below meth c s₁ B hml hv
  obtain ⟨rfl, hK, hW⟩ := hv
  have hx := B.exec
  have hb := B.bytes
  have hr := B.returns
  have hts := atoms_spec (ws := WS_X10_conflictsOf) B.pre
  have htg : ∀ w ∈ wsG, w.before _ s = true := fun w h => hts w (List.mem_cons_of_mem _ h)
  have hown : s.vm.findClass RX10 = some m.cls := findClass_of_methodNamed B.named
  have hlocks := B.notSynchronized
  have hS : va_S (gF G) s.heap s.heap [] := va_S.rf
  have hl := lv_entry ([.ref (gA G 3 ↑p0 0), .int p1]) (n := 2) (Nat.le_of_ble_eq_true rfl)
  rw [lg_entry_eq]
  generalize (lg_sl ([.ref (gA G 3 ↑p0 0), .int p1]) ++ List.replicate (2 - (lg_sl ([.ref (gA G 3 ↑p0 0), .int p1])).length) Slot.unset).toArray = ls at hl ⊢
  have hl : lv_has ls 2 [(0, .ref (gA G 3 ↑p0 0)), (1, .int p1)] := hl
  have hX := h
  unfold m_X10_conflictsOf at hX
  refine lv_iload_n hx hb dX10_conflictsOf_0 rfl (lv_at hl 1 rfl) ?_
  refine lv_if_lt (tgt := 22) hx hb dX10_conflictsOf_1 (by decide) (fun c1 => ?_) (fun c1 => ?_)
  · have hX := it_t hX c1
    refine lv_iconst (v := (0 : Int32)) hx hb dX10_conflictsOf_22 (by decide) ?_
    have hX := Option.some.inj hX
    subst hX
    exact rt_i hx hb hr hlocks hW hS dX10_conflictsOf_23
  · have hX := it_f hX c1
    refine lv_iload_n hx hb dX10_conflictsOf_4 rfl (lv_at hl 1 rfl) ?_
    refine lv_aload_n hx hb dX10_conflictsOf_5 rfl (lv_at hl 0 rfl) ?_
    refine gf_3_1 hx hb htg hown hK hW p0 q65 dX10_conflictsOf_6 ?_
    refine an_4 hx hb hK hW p0 dX10_conflictsOf_9 ?_
    refine lv_icmp_ge (tgt := 22) hx hb dX10_conflictsOf_10 (by decide) (fun c2 => ?_) (fun c2 => ?_)
    · have hX := it_t hX c2
      refine lv_iconst (v := (0 : Int32)) hx hb dX10_conflictsOf_22 (by decide) ?_
      have hX := Option.some.inj hX
      subst hX
      exact rt_i hx hb hr hlocks hW hS dX10_conflictsOf_23
    · have hX := it_f hX c2
      refine lv_aload_n hx hb dX10_conflictsOf_13 rfl (lv_at hl 0 rfl) ?_
      refine gf_3_1 hx hb htg hown hK hW p0 q65 dX10_conflictsOf_14 ?_
      refine lv_iload_n hx hb dX10_conflictsOf_17 rfl (lv_at hl 1 rfl) ?_
      obtain ⟨g3, hX⟩ := gd_go hX
      refine al_4 hx hb hK hW p0 g3 dX10_conflictsOf_18 ?_
      refine lv_goto (tgt := 23) hx hb dX10_conflictsOf_19 (by decide) ?_
      have hX := Option.some.inj hX
      subst hX
      exact rt_i hx hb hr hlocks hW hS dX10_conflictsOf_23
set_option maxHeartbeats 4000000 in
theorem k_X10_conflictsOf {p : Program} {l : Launch} {e : Env} {R : Room} {s : State} {m : MethodId} {args : Array Value} {below : List Frame} {meth : Method} {c : Code} {H : Heap} {locs : List Loc} {cells slots : Nat} {Q : State → Prop} {cc : ByteArray} {pc nL idx : Nat} {own : String} {ls : Array Slot} {rest : List Value} {G : Geo} {x y : Mem} {H0 : Heap} {p0 : Fin 10} {p1 : Int32} {v : Int32} (hx : p.tables.exec = Jvm.exec) (hb : c.code = cc) (hml : c.maxLocals = nL) (hown : s.vm.findClass own = some m.cls) (htg : ∀ w ∈ wsG, w.before args s = true) (hK : Kt G s) (hW : Wh G x y H) (hS : va_S (gF G) H0 H locs) (h : m_X10_conflictsOf p0 p1 x = some v) (hlk : Cond.methodLink own idx yX10_conflictsOf ∈ wsG) (hn : ls.size = nL) (hr : (rest.map fun v => v.category).sum ≤ 8) (hR1 : 0 + 1 ≤ R.frames) (hR2 : 8 + (2 + 11) + 0 ≤ R.locals) (hf : cells ≤ R.cells ∧ slots ≤ R.slots) (hdg : decode cc pc = .ok (.invokevirtual idx, 3)) (kk : ∀ (H1 : Heap) (locs1 : List Loc), Wh G x y H1 → va_S (gF G) H0 H1 locs1 → W p l e R s m args below meth c H1 locs1 cells slots Q (F0 m (pc + 3) ls (.int v :: rest))) : W p l e R s m args below meth c H locs cells slots Q (F0 m pc ls (.int p1 :: .ref (gA G 3 ↑p0 0) :: rest)) := by
  refine va_calli (va_runV (As := [.int p1]) (rest := rest) ⟨hx, hb, hml, hown, htg⟩ (c_X10_conflictsOf l G x y p0 p1 v h) (cwV 1 htg (gd_V hlk q202 q203 q39 q204) rfl rfl rfl (by decide +kernel) ⟨hR1, hR2⟩) ⟨fun a U g mk q => ⟨q.1, q.2.1.calling, q.2.2⟩, rc_3 hK hW p0, fun U hU hW9 => ⟨rfl, hK.warm hW9, by rw [hU]; exact hW⟩⟩ rfl rfl hn rfl (lv_room hr) hdg hf) hS (fun _ _ h9 => h9) (fun _ h9 => h9) ?_
  intro r9 u t H1 locs1 ht hvm hw hB hz1 hk1 hS1
  replace hB : Wh G x y t.heap := hB
  rw [ht] at hB
  replace hw : r9 = v := hw
  subst hw
  exact kk H1 locs1 hB hS1
/-! METHOD X1_armsThatReach -/
def m_X1_armsThatReach_j30 (p0 : Fin 10) (p1 : Int32) (k4 : Int32 → Int32 → Mem → Option Int32) (x2 : Int32) (x3 : Int32) (x : Mem) : Option Int32 :=
  lt_ (x3 + (1 : Int32)) fun x3_8 => k4 x2 x3_8 x
def m_X1_armsThatReach_b4 (p0 : Fin 10) (p1 : Int32) (k4 : Int32 → Int32 → Mem → Option Int32) (x2 : Int32) (x3 : Int32) (x : Mem) : Option Int32 :=
  if (3 : Int32) ≤ x3 then (some x2) else (bd_ (m_X1_armAt p0 x3) fun r5 => if ((x 0 ↑r5.1 ↑r5.2 1) &&& (shl32 (1 : Int32) p1)) = 0 then (m_X1_armsThatReach_j30 p0 p1 k4 x2 x3 x) else (lt_ (x2 ||| (shl32 (1 : Int32) x3)) fun x2_7 => m_X1_armsThatReach_j30 p0 p1 k4 x2_7 x3 x))
def m_X1_armsThatReach_l4 (p0 : Fin 10) (p1 : Int32) : Nat → Int32 → Int32 → Mem → Option Int32
  | 0, _, _, _ => none
  | n + 1, x2, x3, x => m_X1_armsThatReach_b4 p0 p1 (m_X1_armsThatReach_l4 p0 p1 n) x2 x3 x
def m_X1_armsThatReach (p0 : Fin 10) (p1 : Int32) (x : Mem) : Option Int32 :=
  lt_ (0 : Int32) fun x2_1 => lt_ (0 : Int32) fun x3_2 => m_X1_armsThatReach_l4 p0 p1 FU x2_1 x3_2 x
abbrev WS_X1_armsThatReach : List Cond := .code yX1_armsThatReach cX1_armsThatReach 4 (some .int) :: wsG
abbrev RM_X1_armsThatReach : Room := { frames := 1, cells := 0, slots := 0, locals := 21 }
set_option maxHeartbeats 4000000 in
set_option maxRecDepth 100000 in
theorem c_X1_armsThatReach (l : Launch) (G : Geo) (x y : Mem) (p0 : Fin 10) (p1 : Int32) (r : Int32) (h : m_X1_armsThatReach p0 p1 x = some r) : Met l yX1_armsThatReach WS_X1_armsThatReach RM_X1_armsThatReach (Pw G x y [.ref (gA G 2 ↑p0 0), .int p1]) (Qi G x y r) 0 0 (gF G) := by
  refine Met.ofW (cc := cX1_armsThatReach) (maxL := 4) (ret := (some .int)) (by decide) rfl ?_
  intro p e s m args below meth c s₁ B hml hv
  obtain ⟨rfl, hK, hW⟩ := hv
  have hx := B.exec
  have hb := B.bytes
  have hr := B.returns
  have hts := atoms_spec (ws := WS_X1_armsThatReach) B.pre
  have htg : ∀ w ∈ wsG, w.before _ s = true := fun w h => hts w (List.mem_cons_of_mem _ h)
  have hown : s.vm.findClass RX1 = some m.cls := findClass_of_methodNamed B.named
  have hlocks := B.notSynchronized
  have hS : va_S (gF G) s.heap s.heap [] := va_S.rf
  have hl := lv_entry ([.ref (gA G 2 ↑p0 0), .int p1]) (n := 4) (Nat.le_of_ble_eq_true rfl)
  rw [lg_entry_eq]
  generalize (lg_sl ([.ref (gA G 2 ↑p0 0), .int p1]) ++ List.replicate (4 - (lg_sl ([.ref (gA G 2 ↑p0 0), .int p1])).length) Slot.unset).toArray = ls at hl ⊢
  have hl : lv_has ls 4 [(0, .ref (gA G 2 ↑p0 0)), (1, .int p1)] := hl
  have hX := h
  unfold m_X1_armsThatReach at hX
  have J_30 : ∀ (k4 : Int32 → Int32 → Mem → Option Int32) (hk4 : ∀ (x2 : Int32) (x3 : Int32) (x : Mem) (H : Heap) (locs : List Loc) (ls : Array Slot), Wh G x y H → va_S (gF G) s.heap H locs → lv_has ls 4 [(0, .ref (gA G 2 ↑p0 0)), (1, .int p1), (2, .int x2), (3, .int x3)] → k4 x2 x3 x = some r → W p l e (headSpec WS_X1_armsThatReach RM_X1_armsThatReach).room s m ([.ref (gA G 2 ↑p0 0), .int p1] : List Value).toArray below meth c H locs 0 0 (MQ below (Qi G x y r) ([.ref (gA G 2 ↑p0 0), .int p1] : List Value).toArray s 0 0 (gF G)) (F0 m 4 ls [])), ∀ (x2 : Int32) (x3 : Int32) (x : Mem) (H : Heap) (locs : List Loc) (ls : Array Slot), Wh G x y H → va_S (gF G) s.heap H locs → lv_has ls 4 [(0, .ref (gA G 2 ↑p0 0)), (1, .int p1), (2, .int x2), (3, .int x3)] → m_X1_armsThatReach_j30 p0 p1 k4 x2 x3 x = some r → W p l e (headSpec WS_X1_armsThatReach RM_X1_armsThatReach).room s m ([.ref (gA G 2 ↑p0 0), .int p1] : List Value).toArray below meth c H locs 0 0 (MQ below (Qi G x y r) ([.ref (gA G 2 ↑p0 0), .int p1] : List Value).toArray s 0 0 (gF G)) (F0 m 30 ls []) := by
    intro k4 hk4 x2 x3 x H locs ls hW hS hl hX
    unfold m_X1_armsThatReach_j30 at hX
    obtain ⟨x3_8, e9⟩ : ∃ w : Int32, w = (x3 + (1 : Int32)) := ⟨_, rfl⟩
    have hX := lt_go hX e9
    refine lv_iinc (v := x3_8) (lv' := [(3, .int x3_8), (0, .ref (gA G 2 ↑p0 0)), (1, .int p1), (2, .int x2)]) hx hb dX1_armsThatReach_30 hl (k := 3) rfl (by rw [e9]; rfl) (by decide) rfl (fun ls hl => ?_)
    refine lv_goto (tgt := 4) hx hb dX1_armsThatReach_33 (by decide) ?_
    exact hk4 _ _ _ _ _ _ hW hS (lv_sub hl [1, 2, 3, 0] rfl) hX
  have B_4 : ∀ (k4 : Int32 → Int32 → Mem → Option Int32) (hk4 : ∀ (x2 : Int32) (x3 : Int32) (x : Mem) (H : Heap) (locs : List Loc) (ls : Array Slot), Wh G x y H → va_S (gF G) s.heap H locs → lv_has ls 4 [(0, .ref (gA G 2 ↑p0 0)), (1, .int p1), (2, .int x2), (3, .int x3)] → k4 x2 x3 x = some r → W p l e (headSpec WS_X1_armsThatReach RM_X1_armsThatReach).room s m ([.ref (gA G 2 ↑p0 0), .int p1] : List Value).toArray below meth c H locs 0 0 (MQ below (Qi G x y r) ([.ref (gA G 2 ↑p0 0), .int p1] : List Value).toArray s 0 0 (gF G)) (F0 m 4 ls [])), ∀ (x2 : Int32) (x3 : Int32) (x : Mem) (H : Heap) (locs : List Loc) (ls : Array Slot), Wh G x y H → va_S (gF G) s.heap H locs → lv_has ls 4 [(0, .ref (gA G 2 ↑p0 0)), (1, .int p1), (2, .int x2), (3, .int x3)] → m_X1_armsThatReach_b4 p0 p1 k4 x2 x3 x = some r → W p l e (headSpec WS_X1_armsThatReach RM_X1_armsThatReach).room s m ([.ref (gA G 2 ↑p0 0), .int p1] : List Value).toArray below meth c H locs 0 0 (MQ below (Qi G x y r) ([.ref (gA G 2 ↑p0 0), .int p1] : List Value).toArray s 0 0 (gF G)) (F0 m 4 ls []) := by
    intro k4 hk4 x2 x3 x H locs ls hW hS hl hX
    unfold m_X1_armsThatReach_b4 at hX
    refine lv_iload_n hx hb dX1_armsThatReach_4 rfl (lv_at hl 3 rfl) ?_
    refine lv_iconst (v := (3 : Int32)) hx hb dX1_armsThatReach_5 (by decide) ?_
    refine lv_icmp_ge (tgt := 36) hx hb dX1_armsThatReach_6 (by decide) (fun c3 => ?_) (fun c3 => ?_)
    · have hX := it_t hX c3
      refine lv_iload_n hx hb dX1_armsThatReach_36 rfl (lv_at hl 2 rfl) ?_
      have hX := Option.some.inj hX
      subst hX
      exact rt_i hx hb hr hlocks hW hS dX1_armsThatReach_37
    · have hX := it_f hX c3
      refine lv_aload_n hx hb dX1_armsThatReach_9 rfl (lv_at hl 0 rfl) ?_
      refine lv_iload_n hx hb dX1_armsThatReach_10 rfl (lv_at hl 3 rfl) ?_
      obtain ⟨r5, h4, hX⟩ := bd_go hX
      refine k_X1_armAt hx hb hml hown htg hK hW hS h4 q210 hl.1 (Nat.le_of_ble_eq_true rfl) (Nat.le_of_ble_eq_true rfl) (Nat.le_of_ble_eq_true rfl) ⟨Nat.zero_le _, Nat.zero_le _⟩ dX1_armsThatReach_11 (fun H locs hW hS => ?_)
      refine gf_0_1 hx hb htg hown hK hW r5 q477 dX1_armsThatReach_14 ?_
      refine lv_iconst (v := (1 : Int32)) hx hb dX1_armsThatReach_17 (by decide) ?_
      refine lv_iload_n hx hb dX1_armsThatReach_18 rfl (lv_at hl 1 rfl) ?_
      refine lv_ishl_ hx hb dX1_armsThatReach_19 ?_
      refine lv_iand hx hb dX1_armsThatReach_20 ?_
      refine lv_if_eq (tgt := 30) hx hb dX1_armsThatReach_21 (by decide) (fun c6 => ?_) (fun c6 => ?_)
      · have hX := it_t hX c6
        exact J_30 k4 hk4 _ _ _ _ _ _ hW hS (lv_sub hl [0, 1, 2, 3] rfl) hX
      · have hX := it_f hX c6
        refine lv_iload_n hx hb dX1_armsThatReach_24 rfl (lv_at hl 2 rfl) ?_
        refine lv_iconst (v := (1 : Int32)) hx hb dX1_armsThatReach_25 (by decide) ?_
        refine lv_iload_n hx hb dX1_armsThatReach_26 rfl (lv_at hl 3 rfl) ?_
        refine lv_ishl_ hx hb dX1_armsThatReach_27 ?_
        refine lv_ior hx hb dX1_armsThatReach_28 ?_
        refine lv_topi (fun x2_7 e9 => ?_)
        have hX := lt_go hX e9
        refine lv_istore_n (lv' := [(2, .int x2_7), (0, .ref (gA G 2 ↑p0 0)), (1, .int p1), (3, .int x3)]) hx hb dX1_armsThatReach_29 rfl hl (by decide) rfl (fun ls hl => ?_)
        exact J_30 k4 hk4 _ _ _ _ _ _ hW hS (lv_sub hl [1, 2, 0, 3] rfl) hX
  have L_4 : ∀ (n : Nat), ∀ (x2 : Int32) (x3 : Int32) (x : Mem) (H : Heap) (locs : List Loc) (ls : Array Slot), Wh G x y H → va_S (gF G) s.heap H locs → lv_has ls 4 [(0, .ref (gA G 2 ↑p0 0)), (1, .int p1), (2, .int x2), (3, .int x3)] → m_X1_armsThatReach_l4 p0 p1 n x2 x3 x = some r → W p l e (headSpec WS_X1_armsThatReach RM_X1_armsThatReach).room s m ([.ref (gA G 2 ↑p0 0), .int p1] : List Value).toArray below meth c H locs 0 0 (MQ below (Qi G x y r) ([.ref (gA G 2 ↑p0 0), .int p1] : List Value).toArray s 0 0 (gF G)) (F0 m 4 ls []) := by
    intro n
    induction n with
    | zero => intro x2 x3 x H locs ls hW hS hl hX; exact no_go hX
    | succ n ih => intro x2 x3 x H locs ls hW hS hl hX; exact B_4 _ ih _ _ _ _ _ _ hW hS hl hX
  refine lv_iconst (v := (0 : Int32)) hx hb dX1_armsThatReach_0 (by decide) ?_
  refine lv_topi (fun x2_1 e9 => ?_)
  have hX := lt_go hX e9
  refine lv_istore_n (lv' := [(2, .int x2_1), (0, .ref (gA G 2 ↑p0 0)), (1, .int p1)]) hx hb dX1_armsThatReach_1 rfl hl (by decide) rfl (fun ls hl => ?_)
  refine lv_iconst (v := (0 : Int32)) hx hb dX1_armsThatReach_2 (by decide) ?_
  refine lv_topi (fun x3_2 e9 => ?_)
  have hX := lt_go hX e9
  refine lv_istore_n (lv' := [(3, .int x3_2), (2, .int x2_1), (0, .ref (gA G 2 ↑p0 0)), (1, .int p1)]) hx hb dX1_armsThatReach_3 rfl hl (by decide) rfl (fun ls hl => ?_)
  exact L_4 FU _ _ _ _ _ _ hW hS (lv_sub hl [2, 3, 1, 0] rfl) hX
set_option maxHeartbeats 4000000 in
theorem k_X1_armsThatReach {p : Program} {l : Launch} {e : Env} {R : Room} {s : State} {m : MethodId} {args : Array Value} {below : List Frame} {meth : Method} {c : Code} {H : Heap} {locs : List Loc} {cells slots : Nat} {Q : State → Prop} {cc : ByteArray} {pc nL idx : Nat} {own : String} {ls : Array Slot} {rest : List Value} {G : Geo} {x y : Mem} {H0 : Heap} {p0 : Fin 10} {p1 : Int32} {v : Int32} (hx : p.tables.exec = Jvm.exec) (hb : c.code = cc) (hml : c.maxLocals = nL) (hown : s.vm.findClass own = some m.cls) (htg : ∀ w ∈ wsG, w.before args s = true) (hK : Kt G s) (hW : Wh G x y H) (hS : va_S (gF G) H0 H locs) (h : m_X1_armsThatReach p0 p1 x = some v) (hlk : Cond.methodLink own idx yX1_armsThatReach ∈ wsG) (hn : ls.size = nL) (hr : (rest.map fun v => v.category).sum ≤ 8) (hR1 : 1 + 1 ≤ R.frames) (hR2 : 8 + (4 + 11) + 21 ≤ R.locals) (hf : cells ≤ R.cells ∧ slots ≤ R.slots) (hdg : decode cc pc = .ok (.invokevirtual idx, 3)) (kk : ∀ (H1 : Heap) (locs1 : List Loc), Wh G x y H1 → va_S (gF G) H0 H1 locs1 → W p l e R s m args below meth c H1 locs1 cells slots Q (F0 m (pc + 3) ls (.int v :: rest))) : W p l e R s m args below meth c H locs cells slots Q (F0 m pc ls (.int p1 :: .ref (gA G 2 ↑p0 0) :: rest)) := by
  refine va_calli (va_runV (As := [.int p1]) (rest := rest) ⟨hx, hb, hml, hown, htg⟩ (c_X1_armsThatReach l G x y p0 p1 v h) (cwV 1 htg (gd_V hlk q474 q475 q16 q476) rfl rfl rfl (by decide +kernel) ⟨hR1, hR2⟩) ⟨fun a U g mk q => ⟨q.1, q.2.1.calling, q.2.2⟩, rc_2 hK hW p0, fun U hU hW9 => ⟨rfl, hK.warm hW9, by rw [hU]; exact hW⟩⟩ rfl rfl hn rfl (lv_room hr) hdg hf) hS (fun _ _ h9 => h9) (fun _ h9 => h9) ?_
  intro r9 u t H1 locs1 ht hvm hw hB hz1 hk1 hS1
  replace hB : Wh G x y t.heap := hB
  rw [ht] at hB
  replace hw : r9 = v := hw
  subst hw
  exact kk H1 locs1 hB hS1
