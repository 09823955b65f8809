/-! METHOD X12_restore -/
def m_X12_restore (y : Mem) : Option (Int32 × Mem) :=
  if (y 40 0 0 61) = 0 then (bd2_ (m_X12_fails (1 : Int32) y) fun r8 y9 => some (r8, y9)) else (lt_ (up4 y 40 0 0 0 (0 : Int32)) fun y2 => bd_ (m_X12_passAll (156, 0, 0) 573 (0 : Int32) (0 : Int32) y2) fun y5 => lt_ (up4 y5 40 0 0 59 (0 : Int32)) fun y6 => some ((y6 40 0 0 33), y6))
abbrev WS_X12_restore : List Cond := .code yX12_restore cX12_restore 1 (some .int) :: wsG
abbrev RM_X12_restore : Room := { frames := 3, cells := 0, slots := 0, locals := 67 }
set_option maxHeartbeats 4000000 in
set_option maxRecDepth 100000 in
theorem c_X12_restore (l : Launch) (G : Geo) (x y : Mem) (r : (Int32 × Mem)) (h : m_X12_restore y = some r) : Met l yX12_restore WS_X12_restore RM_X12_restore (Pw G x y [.ref (gA G 40 0 0)]) (Qi G x r.2 r.1) 0 0 (gF G) := by
  refine Met.ofW (cc := cX12_restore) (maxL := 1) (ret := (some .int)) (by decide) rfl ?_
  intro p e s m args below meth c s₁ B hml hv
  obtain ⟨rfl, hK, hW⟩ := hv
  have hx := B.exec
  have hb := B.bytes
  have hr := B.returns
  have hts := atoms_spec (ws := WS_X12_restore) B.pre
  have htg : ∀ w ∈ wsG, w.before _ s = true := fun w h => hts w (List.mem_cons_of_mem _ h)
  have hown : s.vm.findClass RX12 = some m.cls := findClass_of_methodNamed B.named
  have hlocks := B.notSynchronized
  have hS : va_S (gF G) s.heap s.heap [] := va_S.rf
  have hl := lv_entry ([.ref (gA G 40 0 0)]) (n := 1) (Nat.le_of_ble_eq_true rfl)
  rw [lg_entry_eq]
  generalize (lg_sl ([.ref (gA G 40 0 0)]) ++ List.replicate (1 - (lg_sl ([.ref (gA G 40 0 0)])).length) Slot.unset).toArray = ls at hl ⊢
  have hl : lv_has ls 1 [(0, .ref (gA G 40 0 0))] := hl
  have hX := h
  unfold m_X12_restore at hX
  refine lv_aload_n hx hb dX12_restore_0 rfl (lv_at hl 0 rfl) ?_
  refine gf_40_61 hx hb htg hown hK hW q1239 dX12_restore_1 ?_
  refine lv_if_ne (tgt := 13) hx hb dX12_restore_4 (by decide) (fun c1 => ?_) (fun c1 => ?_)
  · have hX := it_f hX c1
    refine lv_aload_n hx hb dX12_restore_13 rfl (lv_at hl 0 rfl) ?_
    refine lv_iconst (v := (0 : Int32)) hx hb dX12_restore_14 (by decide) ?_
    refine pf_40_0 hx hb htg hown hK hW hS q311 dX12_restore_15 (fun H locs hW hS => ?_)
    obtain ⟨y2, e9⟩ : ∃ w : Mem, w = (up4 y 40 0 0 0 (0 : Int32)) := ⟨_, rfl⟩
    rw [← e9] at hW
    have hX := lt_go hX e9
    refine lv_aload_n hx hb dX12_restore_18 rfl (lv_at hl 0 rfl) ?_
    refine lv_aload_n hx hb dX12_restore_19 rfl (lv_at hl 0 rfl) ?_
    refine gf_40_56 hx hb htg hown hK hW q176 dX12_restore_20 ?_
    refine lv_iconst (v := (0 : Int32)) hx hb dX12_restore_23 (by decide) ?_
    refine lv_iconst (v := (0 : Int32)) hx hb dX12_restore_24 (by decide) ?_
    obtain ⟨y5, h3, hX⟩ := bd_go hX
    refine k_X12_passAll hx hb hml hown htg hK hW hS (ia_156) (show ¬ (156 : Nat) < 40 by decide) h3 q346 hl.1 (Nat.le_of_ble_eq_true rfl) (Nat.le_of_ble_eq_true rfl) (Nat.le_of_ble_eq_true rfl) ⟨Nat.zero_le _, Nat.zero_le _⟩ dX12_restore_25 (fun H locs hW hS => ?_)
    refine lv_aload_n hx hb dX12_restore_28 rfl (lv_at hl 0 rfl) ?_
    refine lv_iconst (v := (0 : Int32)) hx hb dX12_restore_29 (by decide) ?_
    refine pf_40_59 hx hb htg hown hK hW hS q345 dX12_restore_30 (fun H locs hW hS => ?_)
    obtain ⟨y6, e9⟩ : ∃ w : Mem, w = (up4 y5 40 0 0 59 (0 : Int32)) := ⟨_, rfl⟩
    rw [← e9] at hW
    have hX := lt_go hX e9
    refine lv_aload_n hx hb dX12_restore_33 rfl (lv_at hl 0 rfl) ?_
    refine gf_40_33 hx hb htg hown hK hW q352 dX12_restore_34 ?_
    have hX := Option.some.inj hX
    subst hX
    exact rt_i hx hb hr hlocks hW hS dX12_restore_37
  · have hX := it_t hX c1
    refine lv_aload_n hx hb dX12_restore_7 rfl (lv_at hl 0 rfl) ?_
    refine lv_iconst (v := (1 : Int32)) hx hb dX12_restore_8 (by decide) ?_
    obtain ⟨r8, y9, h7, hX⟩ := bd2_go hX
    refine k_X12_fails hx hb hml hown htg hK hW hS h7 q407 hl.1 (Nat.le_of_ble_eq_true rfl) (Nat.le_of_ble_eq_true rfl) (Nat.le_of_ble_eq_true rfl) ⟨Nat.zero_le _, Nat.zero_le _⟩ dX12_restore_9 (fun H locs hW hS => ?_)
    have hX := Option.some.inj hX
    subst hX
    exact rt_i hx hb hr hlocks hW hS dX12_restore_12
set_option maxHeartbeats 4000000 in
theorem k_X12_restore {p : Program} {l : Launch} {e : Env} {R : Room} {s : State} {m : MethodId} {args : Array Value} {below : List Frame} {meth : Method} {c : Code} {H : Heap} {locs : List Loc} {cells slots : Nat} {Q : State → Prop} {cc : ByteArray} {pc nL idx : Nat} {own : String} {ls : Array Slot} {rest : List Value} {G : Geo} {x y : Mem} {H0 : Heap} {v : Int32} {z : Mem} (hx : p.tables.exec = Jvm.exec) (hb : c.code = cc) (hml : c.maxLocals = nL) (hown : s.vm.findClass own = some m.cls) (htg : ∀ w ∈ wsG, w.before args s = true) (hK : Kt G s) (hW : Wh G x y H) (hS : va_S (gF G) H0 H locs) (h : m_X12_restore y = some (v, z)) (hlk : Cond.methodLink own idx yX12_restore ∈ wsG) (hn : ls.size = nL) (hr : (rest.map fun v => v.category).sum ≤ 8) (hR1 : 3 + 1 ≤ R.frames) (hR2 : 8 + (1 + 11) + 67 ≤ R.locals) (hf : cells ≤ R.cells ∧ slots ≤ R.slots) (hdg : decode cc pc = .ok (.invokevirtual idx, 3)) (kk : ∀ (H1 : Heap) (locs1 : List Loc), Wh G x z H1 → va_S (gF G) H0 H1 locs1 → W p l e R s m args below meth c H1 locs1 cells slots Q (F0 m (pc + 3) ls (.int v :: rest))) : W p l e R s m args below meth c H locs cells slots Q (F0 m pc ls (.ref (gA G 40 0 0) :: rest)) := by
  refine va_calli (va_runV (As := []) (rest := rest) ⟨hx, hb, hml, hown, htg⟩ (c_X12_restore l G x y (v, z) h) (cwV 0 htg (gd_V hlk q1252 q1253 q5 q1254) rfl rfl rfl (by decide +kernel) ⟨hR1, hR2⟩) ⟨fun a U g mk q => ⟨q.1, q.2.1.calling, q.2.2⟩, rc_40 hK hW, fun U hU hW9 => ⟨rfl, hK.warm hW9, by rw [hU]; exact hW⟩⟩ rfl rfl hn rfl (lv_room hr) hdg hf) hS (fun _ _ h9 => h9) (fun _ h9 => h9) ?_
  intro r9 u t H1 locs1 ht hvm hw hB hz1 hk1 hS1
  replace hB : Wh G x z t.heap := hB
  rw [ht] at hB
  replace hw : r9 = v := hw
  subst hw
  exact kk H1 locs1 hB hS1
/-! METHOD X12_save -/
def m_X12_save (y : Mem) : Option (Int32 × Mem) :=
  lt_ (up4 y 40 0 0 0 (0 : Int32)) fun y1 => lt_ (up4 y1 40 0 0 61 (1 : Int32)) fun y2 => bd_ (m_X12_passAll (156, 0, 0) 573 (0 : Int32) (1 : Int32) y2) fun y5 => some ((y5 40 0 0 33), y5)
abbrev WS_X12_save : List Cond := .code yX12_save cX12_save 1 (some .int) :: wsG
abbrev RM_X12_save : Room := { frames := 3, cells := 0, slots := 0, locals := 67 }
set_option maxHeartbeats 4000000 in
set_option maxRecDepth 100000 in
theorem c_X12_save (l : Launch) (G : Geo) (x y : Mem) (r : (Int32 × Mem)) (h : m_X12_save y = some r) : Met l yX12_save WS_X12_save RM_X12_save (Pw G x y [.ref (gA G 40 0 0)]) (Qi G x r.2 r.1) 0 0 (gF G) := by
  refine Met.ofW (cc := cX12_save) (maxL := 1) (ret := (some .int)) (by decide) rfl ?_
  intro p e s m args below meth c s₁ B hml hv
  obtain ⟨rfl, hK, hW⟩ := hv
  have hx := B.exec
  have hb := B.bytes
  have hr := B.returns
  have hts := atoms_spec (ws := WS_X12_save) B.pre
  have htg : ∀ w ∈ wsG, w.before _ s = true := fun w h => hts w (List.mem_cons_of_mem _ h)
  have hown : s.vm.findClass RX12 = some m.cls := findClass_of_methodNamed B.named
  have hlocks := B.notSynchronized
  have hS : va_S (gF G) s.heap s.heap [] := va_S.rf
  have hl := lv_entry ([.ref (gA G 40 0 0)]) (n := 1) (Nat.le_of_ble_eq_true rfl)
  rw [lg_entry_eq]
  generalize (lg_sl ([.ref (gA G 40 0 0)]) ++ List.replicate (1 - (lg_sl ([.ref (gA G 40 0 0)])).length) Slot.unset).toArray = ls at hl ⊢
  have hl : lv_has ls 1 [(0, .ref (gA G 40 0 0))] := hl
  have hX := h
  unfold m_X12_save at hX
  refine lv_aload_n hx hb dX12_save_0 rfl (lv_at hl 0 rfl) ?_
  refine lv_iconst (v := (0 : Int32)) hx hb dX12_save_1 (by decide) ?_
  refine pf_40_0 hx hb htg hown hK hW hS q311 dX12_save_2 (fun H locs hW hS => ?_)
  obtain ⟨y1, e9⟩ : ∃ w : Mem, w = (up4 y 40 0 0 0 (0 : Int32)) := ⟨_, rfl⟩
  rw [← e9] at hW
  have hX := lt_go hX e9
  refine lv_aload_n hx hb dX12_save_5 rfl (lv_at hl 0 rfl) ?_
  refine lv_iconst (v := (1 : Int32)) hx hb dX12_save_6 (by decide) ?_
  refine pf_40_61 hx hb htg hown hK hW hS q1239 (by decide) dX12_save_7 (fun H locs hW hS => ?_)
  obtain ⟨y2, e9⟩ : ∃ w : Mem, w = (up4 y1 40 0 0 61 (1 : Int32)) := ⟨_, rfl⟩
  rw [← e9] at hW
  have hX := lt_go hX e9
  refine lv_aload_n hx hb dX12_save_10 rfl (lv_at hl 0 rfl) ?_
  refine lv_aload_n hx hb dX12_save_11 rfl (lv_at hl 0 rfl) ?_
  refine gf_40_56 hx hb htg hown hK hW q176 dX12_save_12 ?_
  refine lv_iconst (v := (0 : Int32)) hx hb dX12_save_15 (by decide) ?_
  refine lv_iconst (v := (1 : Int32)) hx hb dX12_save_16 (by decide) ?_
  obtain ⟨y5, h3, hX⟩ := bd_go hX
  refine k_X12_passAll hx hb hml hown htg hK hW hS (ia_156) (show ¬ (156 : Nat) < 40 by decide) h3 q346 hl.1 (Nat.le_of_ble_eq_true rfl) (Nat.le_of_ble_eq_true rfl) (Nat.le_of_ble_eq_true rfl) ⟨Nat.zero_le _, Nat.zero_le _⟩ dX12_save_17 (fun H locs hW hS => ?_)
  refine lv_aload_n hx hb dX12_save_20 rfl (lv_at hl 0 rfl) ?_
  refine gf_40_33 hx hb htg hown hK hW q352 dX12_save_21 ?_
  have hX := Option.some.inj hX
  subst hX
  exact rt_i hx hb hr hlocks hW hS dX12_save_24
set_option maxHeartbeats 4000000 in
theorem k_X12_save {p : Program} {l : Launch} {e : Env} {R : Room} {s : State} {m : MethodId} {args : Array Value} {below : List Frame} {meth : Method} {c : Code} {H : Heap} {locs : List Loc} {cells slots : Nat} {Q : State → Prop} {cc : ByteArray} {pc nL idx : Nat} {own : String} {ls : Array Slot} {rest : List Value} {G : Geo} {x y : Mem} {H0 : Heap} {v : Int32} {z : Mem} (hx : p.tables.exec = Jvm.exec) (hb : c.code = cc) (hml : c.maxLocals = nL) (hown : s.vm.findClass own = some m.cls) (htg : ∀ w ∈ wsG, w.before args s = true) (hK : Kt G s) (hW : Wh G x y H) (hS : va_S (gF G) H0 H locs) (h : m_X12_save y = some (v, z)) (hlk : Cond.methodLink own idx yX12_save ∈ wsG) (hn : ls.size = nL) (hr : (rest.map fun v => v.category).sum ≤ 8) (hR1 : 3 + 1 ≤ R.frames) (hR2 : 8 + (1 + 11) + 67 ≤ R.locals) (hf : cells ≤ R.cells ∧ slots ≤ R.slots) (hdg : decode cc pc = .ok (.invokevirtual idx, 3)) (kk : ∀ (H1 : Heap) (locs1 : List Loc), Wh G x z H1 → va_S (gF G) H0 H1 locs1 → W p l e R s m args below meth c H1 locs1 cells slots Q (F0 m (pc + 3) ls (.int v :: rest))) : W p l e R s m args below meth c H locs cells slots Q (F0 m pc ls (.ref (gA G 40 0 0) :: rest)) := by
  refine va_calli (va_runV (As := []) (rest := rest) ⟨hx, hb, hml, hown, htg⟩ (c_X12_save l G x y (v, z) h) (cwV 0 htg (gd_V hlk q1236 q1237 q5 q1238) rfl rfl rfl (by decide +kernel) ⟨hR1, hR2⟩) ⟨fun a U g mk q => ⟨q.1, q.2.1.calling, q.2.2⟩, rc_40 hK hW, fun U hU hW9 => ⟨rfl, hK.warm hW9, by rw [hU]; exact hW⟩⟩ rfl rfl hn rfl (lv_room hr) hdg hf) hS (fun _ _ h9 => h9) (fun _ h9 => h9) ?_
  intro r9 u t H1 locs1 ht hvm hw hB hz1 hk1 hS1
  replace hB : Wh G x z t.heap := hB
  rw [ht] at hB
  replace hw : r9 = v := hw
  subst hw
  exact kk H1 locs1 hB hS1
/-! METHOD X12_setCapacity -/
def m_X12_setCapacity (p0 : Int32) (p1 : Int32) (y : Mem) : Option (Int32 × Mem) :=
  bd_ (m_X12_isBuffer p0) fun r2 => if r2 = 0 then (bd2_ (m_X12_fails (1 : Int32) y) fun r22 y23 => some (r22, y23)) else (bd_ (m_X12_isBetween p1 (1 : Int32) (4 : Int32)) fun r5 => if r5 = 0 then (bd2_ (m_X12_fails (2 : Int32) y) fun r19 y20 => some (r19, y20)) else (gd_ p0 3 (if ((y 104 0 0 p0.toNatClampNeg) + (y 106 0 0 p0.toNatClampNeg)) ≤ p1 then (lt_ (up4 y 40 0 0 0 (0 : Int32)) fun y9 => bd_ (m_X12_remembers y9) fun y12 => lt_ (y12 103 0 0 p0.toNatClampNeg) fun x3_13 => lt_ (up4 y12 103 0 0 p0.toNatClampNeg p1) fun y14 => some (x3_13, y14)) else (bd2_ (m_X12_fails (3 : Int32) y) fun r16 y17 => some (r16, y17)))))
abbrev WS_X12_setCapacity : List Cond := .code yX12_setCapacity cX12_setCapacity 4 (some .int) :: wsG
abbrev RM_X12_setCapacity : Room := { frames := 4, cells := 0, slots := 0, locals := 88 }
set_option maxHeartbeats 4000000 in
set_option maxRecDepth 100000 in
theorem c_X12_setCapacity (l : Launch) (G : Geo) (x y : Mem) (p0 : Int32) (p1 : Int32) (r : (Int32 × Mem)) (h : m_X12_setCapacity p0 p1 y = some r) : Met l yX12_setCapacity WS_X12_setCapacity RM_X12_setCapacity (Pw G x y [.ref (gA G 40 0 0), .int p0, .int p1]) (Qi G x r.2 r.1) 0 0 (gF G) := by
  refine Met.ofW (cc := cX12_setCapacity) (maxL := 4) (ret := (some .int)) (by decide) rfl ?_
  intro p e s m args below meth c s₁ B hml hv
  obtain ⟨rfl, hK, hW⟩ := hv
  have hx := B.exec
  have hb := B.bytes
  have hr := B.returns
  have hts := atoms_spec (ws := WS_X12_setCapacity) B.pre
  have htg : ∀ w ∈ wsG, w.before _ s = true := fun w h => hts w (List.mem_cons_of_mem _ h)
  have hown : s.vm.findClass RX12 = some m.cls := findClass_of_methodNamed B.named
  have hlocks := B.notSynchronized
  have hS : va_S (gF G) s.heap s.heap [] := va_S.rf
  have hl := lv_entry ([.ref (gA G 40 0 0), .int p0, .int p1]) (n := 4) (Nat.le_of_ble_eq_true rfl)
  rw [lg_entry_eq]
  generalize (lg_sl ([.ref (gA G 40 0 0), .int p0, .int p1]) ++ List.replicate (4 - (lg_sl ([.ref (gA G 40 0 0), .int p0, .int p1])).length) Slot.unset).toArray = ls at hl ⊢
  have hl : lv_has ls 4 [(0, .ref (gA G 40 0 0)), (1, .int p0), (2, .int p1)] := hl
  have hX := h
  unfold m_X12_setCapacity at hX
  refine lv_iload_n hx hb dX12_setCapacity_0 rfl (lv_at hl 1 rfl) ?_
  obtain ⟨r2, h1, hX⟩ := bd_go hX
  refine k_X12_isBuffer hx hb hml hown htg hK hW hS h1 q431 hl.1 (Nat.le_of_ble_eq_true rfl) (Nat.le_of_ble_eq_true rfl) (Nat.le_of_ble_eq_true rfl) ⟨Nat.zero_le _, Nat.zero_le _⟩ dX12_setCapacity_1 (fun H locs hW hS => ?_)
  refine lv_if_ne (tgt := 13) hx hb dX12_setCapacity_4 (by decide) (fun c3 => ?_) (fun c3 => ?_)
  · have hX := it_f hX c3
    refine lv_iload_n hx hb dX12_setCapacity_13 rfl (lv_at hl 2 rfl) ?_
    refine lv_iconst (v := (1 : Int32)) hx hb dX12_setCapacity_14 (by decide) ?_
    refine lv_iconst (v := (4 : Int32)) hx hb dX12_setCapacity_15 (by decide) ?_
    obtain ⟨r5, h4, hX⟩ := bd_go hX
    refine k_X12_isBetween hx hb hml hown htg hK hW hS h4 q319 hl.1 (Nat.le_of_ble_eq_true rfl) (Nat.le_of_ble_eq_true rfl) (Nat.le_of_ble_eq_true rfl) ⟨Nat.zero_le _, Nat.zero_le _⟩ dX12_setCapacity_16 (fun H locs hW hS => ?_)
    refine lv_if_ne (tgt := 28) hx hb dX12_setCapacity_19 (by decide) (fun c6 => ?_) (fun c6 => ?_)
    · have hX := it_f hX c6
      refine lv_aload_n hx hb dX12_setCapacity_28 rfl (lv_at hl 0 rfl) ?_
      refine gf_40_4 hx hb htg hown hK hW q139 dX12_setCapacity_29 ?_
      refine lv_iload_n hx hb dX12_setCapacity_32 rfl (lv_at hl 1 rfl) ?_
      obtain ⟨g7, hX⟩ := gd_go hX
      refine al_104 hx hb hK hW g7 dX12_setCapacity_33 ?_
      refine lv_aload_n hx hb dX12_setCapacity_34 rfl (lv_at hl 0 rfl) ?_
      refine gf_40_6 hx hb htg hown hK hW q141 dX12_setCapacity_35 ?_
      refine lv_iload_n hx hb dX12_setCapacity_38 rfl (lv_at hl 1 rfl) ?_
      refine al_106 hx hb hK hW g7 dX12_setCapacity_39 ?_
      refine lv_iadd hx hb dX12_setCapacity_40 ?_
      refine lv_iload_n hx hb dX12_setCapacity_41 rfl (lv_at hl 2 rfl) ?_
      refine lv_icmp_le (tgt := 51) hx hb dX12_setCapacity_42 (by decide) (fun c8 => ?_) (fun c8 => ?_)
      · have hX := it_t hX c8
        refine lv_aload_n hx hb dX12_setCapacity_51 rfl (lv_at hl 0 rfl) ?_
        refine lv_iconst (v := (0 : Int32)) hx hb dX12_setCapacity_52 (by decide) ?_
        refine pf_40_0 hx hb htg hown hK hW hS q311 dX12_setCapacity_53 (fun H locs hW hS => ?_)
        obtain ⟨y9, e9⟩ : ∃ w : Mem, w = (up4 y 40 0 0 0 (0 : Int32)) := ⟨_, rfl⟩
        rw [← e9] at hW
        have hX := lt_go hX e9
        refine lv_aload_n hx hb dX12_setCapacity_56 rfl (lv_at hl 0 rfl) ?_
        obtain ⟨y12, h10, hX⟩ := bd_go hX
        refine k_X12_remembers hx hb hml hown htg hK hW hS h10 q341 hl.1 (Nat.le_of_ble_eq_true rfl) (Nat.le_of_ble_eq_true rfl) (Nat.le_of_ble_eq_true rfl) ⟨Nat.zero_le _, Nat.zero_le _⟩ dX12_setCapacity_57 (fun H locs hW hS => ?_)
        refine lv_aload_n hx hb dX12_setCapacity_60 rfl (lv_at hl 0 rfl) ?_
        refine gf_40_3 hx hb htg hown hK hW q138 dX12_setCapacity_61 ?_
        refine lv_iload_n hx hb dX12_setCapacity_64 rfl (lv_at hl 1 rfl) ?_
        refine al_103 hx hb hK hW g7 dX12_setCapacity_65 ?_
        refine lv_topi (fun x3_13 e9 => ?_)
        have hX := lt_go hX e9
        refine lv_istore_n (lv' := [(3, .int x3_13), (0, .ref (gA G 40 0 0)), (1, .int p0), (2, .int p1)]) hx hb dX12_setCapacity_66 rfl hl (by decide) rfl (fun ls hl => ?_)
        refine lv_aload_n hx hb dX12_setCapacity_67 rfl (lv_at hl 1 rfl) ?_
        refine gf_40_3 hx hb htg hown hK hW q138 dX12_setCapacity_68 ?_
        refine lv_iload_n hx hb dX12_setCapacity_71 rfl (lv_at hl 2 rfl) ?_
        refine lv_iload_n hx hb dX12_setCapacity_72 rfl (lv_at hl 3 rfl) ?_
        refine as_103 hx hb hK hW hS g7 dX12_setCapacity_73 (fun H locs hW hS => ?_)
        obtain ⟨y14, e9⟩ : ∃ w : Mem, w = (up4 y12 103 0 0 p0.toNatClampNeg p1) := ⟨_, rfl⟩
        rw [← e9] at hW
        have hX := lt_go hX e9
        refine lv_iload_n hx hb dX12_setCapacity_74 rfl (lv_at hl 0 rfl) ?_
        have hX := Option.some.inj hX
        subst hX
        exact rt_i hx hb hr hlocks hW hS dX12_setCapacity_75
      · have hX := it_f hX c8
        refine lv_aload_n hx hb dX12_setCapacity_45 rfl (lv_at hl 0 rfl) ?_
        refine lv_iconst (v := (3 : Int32)) hx hb dX12_setCapacity_46 (by decide) ?_
        obtain ⟨r16, y17, h15, hX⟩ := bd2_go hX
        refine k_X12_fails hx hb hml hown htg hK hW hS h15 q407 hl.1 (Nat.le_of_ble_eq_true rfl) (Nat.le_of_ble_eq_true rfl) (Nat.le_of_ble_eq_true rfl) ⟨Nat.zero_le _, Nat.zero_le _⟩ dX12_setCapacity_47 (fun H locs hW hS => ?_)
        have hX := Option.some.inj hX
        subst hX
        exact rt_i hx hb hr hlocks hW hS dX12_setCapacity_50
    · have hX := it_t hX c6
      refine lv_aload_n hx hb dX12_setCapacity_22 rfl (lv_at hl 0 rfl) ?_
      refine lv_iconst (v := (2 : Int32)) hx hb dX12_setCapacity_23 (by decide) ?_
      obtain ⟨r19, y20, h18, hX⟩ := bd2_go hX
      refine k_X12_fails hx hb hml hown htg hK hW hS h18 q407 hl.1 (Nat.le_of_ble_eq_true rfl) (Nat.le_of_ble_eq_true rfl) (Nat.le_of_ble_eq_true rfl) ⟨Nat.zero_le _, Nat.zero_le _⟩ dX12_setCapacity_24 (fun H locs hW hS => ?_)
      have hX := Option.some.inj hX
      subst hX
      exact rt_i hx hb hr hlocks hW hS dX12_setCapacity_27
  · have hX := it_t hX c3
    refine lv_aload_n hx hb dX12_setCapacity_7 rfl (lv_at hl 0 rfl) ?_
    refine lv_iconst (v := (1 : Int32)) hx hb dX12_setCapacity_8 (by decide) ?_
    obtain ⟨r22, y23, h21, hX⟩ := bd2_go hX
    refine k_X12_fails hx hb hml hown htg hK hW hS h21 q407 hl.1 (Nat.le_of_ble_eq_true rfl) (Nat.le_of_ble_eq_true rfl) (Nat.le_of_ble_eq_true rfl) ⟨Nat.zero_le _, Nat.zero_le _⟩ dX12_setCapacity_9 (fun H locs hW hS => ?_)
    have hX := Option.some.inj hX
    subst hX
    exact rt_i hx hb hr hlocks hW hS dX12_setCapacity_12
set_option maxHeartbeats 4000000 in
theorem k_X12_setCapacity {p : Program} {l : Launch} {e : Env} {R : Room} {s : State} {m : MethodId} {args : Array Value} {below : List Frame} {meth : Method} {c : Code} {H : Heap} {locs : List Loc} {cells slots : Nat} {Q : State → Prop} {cc : ByteArray} {pc nL idx : Nat} {own : String} {ls : Array Slot} {rest : List Value} {G : Geo} {x y : Mem} {H0 : Heap} {p0 : Int32} {p1 : Int32} {v : Int32} {z : Mem} (hx : p.tables.exec = Jvm.exec) (hb : c.code = cc) (hml : c.maxLocals = nL) (hown : s.vm.findClass own = some m.cls) (htg : ∀ w ∈ wsG, w.before args s = true) (hK : Kt G s) (hW : Wh G x y H) (hS : va_S (gF G) H0 H locs) (h : m_X12_setCapacity p0 p1 y = some (v, z)) (hlk : Cond.methodLink own idx yX12_setCapacity ∈ wsG) (hn : ls.size = nL) (hr : (rest.map fun v => v.category).sum ≤ 8) (hR1 : 4 + 1 ≤ R.frames) (hR2 : 8 + (4 + 11) + 88 ≤ R.locals) (hf : cells ≤ R.cells ∧ slots ≤ R.slots) (hdg : decode cc pc = .ok (.invokevirtual idx, 3)) (kk : ∀ (H1 : Heap) (locs1 : List Loc), Wh G x z H1 → va_S (gF G) H0 H1 locs1 → W p l e R s m args below meth c H1 locs1 cells slots Q (F0 m (pc + 3) ls (.int v :: rest))) : W p l e R s m args below meth c H locs cells slots Q (F0 m pc ls (.int p1 :: .int p0 :: .ref (gA G 40 0 0) :: rest)) := by
  refine va_calli (va_runV (As := [.int p0, .int p1]) (rest := rest) ⟨hx, hb, hml, hown, htg⟩ (c_X12_setCapacity l G x y p0 p1 (v, z) h) (cwV 2 htg (gd_V hlk q428 q429 q5 q430) rfl rfl rfl (by decide +kernel) ⟨hR1, hR2⟩) ⟨fun a U g mk q => ⟨q.1, q.2.1.calling, q.2.2⟩, rc_40 hK hW, fun U hU hW9 => ⟨rfl, hK.warm hW9, by rw [hU]; exact hW⟩⟩ rfl rfl hn rfl (lv_room hr) hdg hf) hS (fun _ _ h9 => h9) (fun _ h9 => h9) ?_
  intro r9 u t H1 locs1 ht hvm hw hB hz1 hk1 hS1
  replace hB : Wh G x z t.heap := hB
  rw [ht] at hB
  replace hw : r9 = v := hw
  subst hw
  exact kk H1 locs1 hB hS1
/-! METHOD X12_setInterlock -/
def m_X12_setInterlock (p0 : Int32) (p1 : Int32) (p2 : Int32) (y : Mem) : Option (Int32 × Mem) :=
  bd_ (m_X12_notLocked p0 p1 p2 y) fun r2 => lt_ (up4 y 40 0 0 0 r2) fun y3 => if (y3 40 0 0 0) ≤ 0 then (gd_ p0 8 (bd_ (m_X12_has (y3 101 0 0 p0.toNatClampNeg) p1) fun r7 => lt_ r7 fun x4_8 => bd_ (m_X12_remembers y3) fun y11 => bd_ (m_X12_locks p0 p1 p2 y11) fun y14 => gb_ x4_8 (some (x4_8, y14)))) else (some ((0 : Int32), y3))
abbrev WS_X12_setInterlock : List Cond := .code yX12_setInterlock cX12_setInterlock 5 (some .boolean) :: wsG
abbrev RM_X12_setInterlock : Room := { frames := 5, cells := 0, slots := 0, locals := 114 }
set_option maxHeartbeats 4000000 in
set_option maxRecDepth 100000 in
theorem c_X12_setInterlock (l : Launch) (G : Geo) (x y : Mem) (p0 : Int32) (p1 : Int32) (p2 : Int32) (r : (Int32 × Mem)) (h : m_X12_setInterlock p0 p1 p2 y = some r) : Met l yX12_setInterlock WS_X12_setInterlock RM_X12_setInterlock (Pw G x y [.ref (gA G 40 0 0), .int p0, .int p1, .int p2]) (Qi G x r.2 r.1) 0 0 (gF G) := by
  refine Met.ofW (cc := cX12_setInterlock) (maxL := 5) (ret := (some .boolean)) (by decide) rfl ?_
  intro p e s m args below meth c s₁ B hml hv
  obtain ⟨rfl, hK, hW⟩ := hv
  have hx := B.exec
  have hb := B.bytes
  have hr := B.returns
  have hts := atoms_spec (ws := WS_X12_setInterlock) B.pre
  have htg : ∀ w ∈ wsG, w.before _ s = true := fun w h => hts w (List.mem_cons_of_mem _ h)
  have hown : s.vm.findClass RX12 = some m.cls := findClass_of_methodNamed B.named
  have hlocks := B.notSynchronized
  have hS : va_S (gF G) s.heap s.heap [] := va_S.rf
  have hl := lv_entry ([.ref (gA G 40 0 0), .int p0, .int p1, .int p2]) (n := 5) (Nat.le_of_ble_eq_true rfl)
  rw [lg_entry_eq]
  generalize (lg_sl ([.ref (gA G 40 0 0), .int p0, .int p1, .int p2]) ++ List.replicate (5 - (lg_sl ([.ref (gA G 40 0 0), .int p0, .int p1, .int p2])).length) Slot.unset).toArray = ls at hl ⊢
  have hl : lv_has ls 5 [(0, .ref (gA G 40 0 0)), (1, .int p0), (2, .int p1), (3, .int p2)] := hl
  have hX := h
  unfold m_X12_setInterlock at hX
  refine lv_aload_n hx hb dX12_setInterlock_0 rfl (lv_at hl 0 rfl) ?_
  refine lv_aload_n hx hb dX12_setInterlock_1 rfl (lv_at hl 0 rfl) ?_
  refine lv_iload_n hx hb dX12_setInterlock_2 rfl (lv_at hl 1 rfl) ?_
  refine lv_iload_n hx hb dX12_setInterlock_3 rfl (lv_at hl 2 rfl) ?_
  refine lv_iload_n hx hb dX12_setInterlock_4 rfl (lv_at hl 3 rfl) ?_
  obtain ⟨r2, h1, hX⟩ := bd_go hX
  refine k_X12_notLocked hx hb hml hown htg hK hW hS h1 q312 hl.1 (Nat.le_of_ble_eq_true rfl) (Nat.le_of_ble_eq_true rfl) (Nat.le_of_ble_eq_true rfl) ⟨Nat.zero_le _, Nat.zero_le _⟩ dX12_setInterlock_5 (fun H locs hW hS => ?_)
  refine pf_40_0 hx hb htg hown hK hW hS q311 dX12_setInterlock_8 (fun H locs hW hS => ?_)
  obtain ⟨y3, e9⟩ : ∃ w : Mem, w = (up4 y 40 0 0 0 r2) := ⟨_, rfl⟩
  rw [← e9] at hW
  have hX := lt_go hX e9
  refine lv_aload_n hx hb dX12_setInterlock_11 rfl (lv_at hl 0 rfl) ?_
  refine gf_40_0 hx hb htg hown hK hW q311 dX12_setInterlock_12 ?_
  refine lv_if_le (tgt := 20) hx hb dX12_setInterlock_15 (by decide) (fun c4 => ?_) (fun c4 => ?_)
  · have hX := it_t hX c4
    refine lv_aload_n hx hb dX12_setInterlock_20 rfl (lv_at hl 0 rfl) ?_
    refine gf_40_1 hx hb htg hown hK hW q136 dX12_setInterlock_21 ?_
    refine lv_iload_n hx hb dX12_setInterlock_24 rfl (lv_at hl 1 rfl) ?_
    obtain ⟨g5, hX⟩ := gd_go hX
    refine al_101 hx hb hK hW g5 dX12_setInterlock_25 ?_
    refine lv_iload_n hx hb dX12_setInterlock_26 rfl (lv_at hl 2 rfl) ?_
    obtain ⟨r7, h6, hX⟩ := bd_go hX
    refine k_X12_has hx hb hml hown htg hK hW hS h6 q338 hl.1 (Nat.le_of_ble_eq_true rfl) (Nat.le_of_ble_eq_true rfl) (Nat.le_of_ble_eq_true rfl) ⟨Nat.zero_le _, Nat.zero_le _⟩ dX12_setInterlock_27 (fun H locs hW hS => ?_)
    refine lv_topi (fun x4_8 e9 => ?_)
    have hX := lt_go hX e9
    refine lv_istore (lv' := [(4, .int x4_8), (0, .ref (gA G 40 0 0)), (1, .int p0), (2, .int p1), (3, .int p2)]) hx hb dX12_setInterlock_30 hl (by decide) rfl (fun ls hl => ?_)
    refine lv_aload_n hx hb dX12_setInterlock_32 rfl (lv_at hl 1 rfl) ?_
    obtain ⟨y11, h9, hX⟩ := bd_go hX
    refine k_X12_remembers hx hb hml hown htg hK hW hS h9 q341 hl.1 (Nat.le_of_ble_eq_true rfl) (Nat.le_of_ble_eq_true rfl) (Nat.le_of_ble_eq_true rfl) ⟨Nat.zero_le _, Nat.zero_le _⟩ dX12_setInterlock_33 (fun H locs hW hS => ?_)
    refine lv_aload_n hx hb dX12_setInterlock_36 rfl (lv_at hl 1 rfl) ?_
    refine lv_iload_n hx hb dX12_setInterlock_37 rfl (lv_at hl 2 rfl) ?_
    refine lv_iload_n hx hb dX12_setInterlock_38 rfl (lv_at hl 3 rfl) ?_
    refine lv_iload_n hx hb dX12_setInterlock_39 rfl (lv_at hl 4 rfl) ?_
    obtain ⟨y14, h12, hX⟩ := bd_go hX
    refine k_X12_locks hx hb hml hown htg hK hW hS h12 q376 hl.1 (Nat.le_of_ble_eq_true rfl) (Nat.le_of_ble_eq_true rfl) (Nat.le_of_ble_eq_true rfl) ⟨Nat.zero_le _, Nat.zero_le _⟩ dX12_setInterlock_40 (fun H locs hW hS => ?_)
    refine lv_iload hx hb dX12_setInterlock_43 (lv_at hl 0 rfl) ?_
    obtain ⟨g9, hX⟩ := gb_go hX
    have hX := Option.some.inj hX
    subst hX
    exact rt_z hx hb hr hlocks hW hS (isB_n g9) dX12_setInterlock_45
  · have hX := it_f hX c4
    refine lv_iconst (v := (0 : Int32)) hx hb dX12_setInterlock_18 (by decide) ?_
    have hX := Option.some.inj hX
    subst hX
    exact rt_z hx hb hr hlocks hW hS nb0 dX12_setInterlock_19
set_option maxHeartbeats 4000000 in
theorem k_X12_setInterlock {p : Program} {l : Launch} {e : Env} {R : Room} {s : State} {m : MethodId} {args : Array Value} {below : List Frame} {meth : Method} {c : Code} {H : Heap} {locs : List Loc} {cells slots : Nat} {Q : State → Prop} {cc : ByteArray} {pc nL idx : Nat} {own : String} {ls : Array Slot} {rest : List Value} {G : Geo} {x y : Mem} {H0 : Heap} {p0 : Int32} {p1 : Int32} {p2 : Int32} {v : Int32} {z : Mem} (hx : p.tables.exec = Jvm.exec) (hb : c.code = cc) (hml : c.maxLocals = nL) (hown : s.vm.findClass own = some m.cls) (htg : ∀ w ∈ wsG, w.before args s = true) (hK : Kt G s) (hW : Wh G x y H) (hS : va_S (gF G) H0 H locs) (h : m_X12_setInterlock p0 p1 p2 y = some (v, z)) (hlk : Cond.methodLink own idx yX12_setInterlock ∈ wsG) (hn : ls.size = nL) (hr : (rest.map fun v => v.category).sum ≤ 8) (hR1 : 5 + 1 ≤ R.frames) (hR2 : 8 + (5 + 11) + 114 ≤ R.locals) (hf : cells ≤ R.cells ∧ slots ≤ R.slots) (hdg : decode cc pc = .ok (.invokevirtual idx, 3)) (kk : ∀ (H1 : Heap) (locs1 : List Loc), Wh G x z H1 → va_S (gF G) H0 H1 locs1 → W p l e R s m args below meth c H1 locs1 cells slots Q (F0 m (pc + 3) ls (.int v :: rest))) : W p l e R s m args below meth c H locs cells slots Q (F0 m pc ls (.int p2 :: .int p1 :: .int p0 :: .ref (gA G 40 0 0) :: rest)) := by
  refine va_calli (va_runV (As := [.int p0, .int p1, .int p2]) (rest := rest) ⟨hx, hb, hml, hown, htg⟩ (c_X12_setInterlock l G x y p0 p1 p2 (v, z) h) (cwV 3 htg (gd_V hlk q308 q309 q5 q310) rfl rfl rfl (by decide +kernel) ⟨hR1, hR2⟩) ⟨fun a U g mk q => ⟨q.1, q.2.1.calling, q.2.2⟩, rc_40 hK hW, fun U hU hW9 => ⟨rfl, hK.warm hW9, by rw [hU]; exact hW⟩⟩ rfl rfl hn rfl (lv_room hr) hdg hf) hS (fun _ _ h9 => h9) (fun _ h9 => h9) ?_
  intro r9 u t H1 locs1 ht hvm hw hB hz1 hk1 hS1
  replace hB : Wh G x z t.heap := hB
  rw [ht] at hB
  replace hw : r9 = v := hw
  subst hw
  exact kk H1 locs1 hB hS1
/-! METHOD X12_setReach -/
def m_X12_setReach (p0 : Int32) (p1 : Int32) (y : Mem) : Option (Int32 × Mem) :=
  bd_ (m_X12_isArm p0) fun r2 => if r2 = 0 then (bd2_ (m_X12_fails (1 : Int32) y) fun r18 y19 => some (r18, y19)) else (bd_ (m_X12_isBetween p1 (0 : Int32) (255 : Int32)) fun r5 => if r5 = 0 then (bd2_ (m_X12_fails (2 : Int32) y) fun r15 y16 => some (r15, y16)) else (lt_ (up4 y 40 0 0 0 (0 : Int32)) fun y7 => bd_ (m_X12_remembers y7) fun y10 => gd_ p0 3 (lt_ (y10 110 0 0 p0.toNatClampNeg) fun x3_12 => lt_ (up4 y10 110 0 0 p0.toNatClampNeg p1) fun y13 => some (x3_12, y13))))
abbrev WS_X12_setReach : List Cond := .code yX12_setReach cX12_setReach 4 (some .int) :: wsG
abbrev RM_X12_setReach : Room := { frames := 4, cells := 0, slots := 0, locals := 88 }
set_option maxHeartbeats 4000000 in
set_option maxRecDepth 100000 in
theorem c_X12_setReach (l : Launch) (G : Geo) (x y : Mem) (p0 : Int32) (p1 : Int32) (r : (Int32 × Mem)) (h : m_X12_setReach p0 p1 y = some r) : Met l yX12_setReach WS_X12_setReach RM_X12_setReach (Pw G x y [.ref (gA G 40 0 0), .int p0, .int p1]) (Qi G x r.2 r.1) 0 0 (gF G) := by
  refine Met.ofW (cc := cX12_setReach) (maxL := 4) (ret := (some .int)) (by decide) rfl ?_
  intro p e s m args below meth c s₁ B hml hv
  obtain ⟨rfl, hK, hW⟩ := hv
  have hx := B.exec
  have hb := B.bytes
  have hr := B.returns
  have hts := atoms_spec (ws := WS_X12_setReach) B.pre
  have htg : ∀ w ∈ wsG, w.before _ s = true := fun w h => hts w (List.mem_cons_of_mem _ h)
  have hown : s.vm.findClass RX12 = some m.cls := findClass_of_methodNamed B.named
  have hlocks := B.notSynchronized
  have hS : va_S (gF G) s.heap s.heap [] := va_S.rf
  have hl := lv_entry ([.ref (gA G 40 0 0), .int p0, .int p1]) (n := 4) (Nat.le_of_ble_eq_true rfl)
  rw [lg_entry_eq]
  generalize (lg_sl ([.ref (gA G 40 0 0), .int p0, .int p1]) ++ List.replicate (4 - (lg_sl ([.ref (gA G 40 0 0), .int p0, .int p1])).length) Slot.unset).toArray = ls at hl ⊢
  have hl : lv_has ls 4 [(0, .ref (gA G 40 0 0)), (1, .int p0), (2, .int p1)] := hl
  have hX := h
  unfold m_X12_setReach at hX
  refine lv_iload_n hx hb dX12_setReach_0 rfl (lv_at hl 1 rfl) ?_
  obtain ⟨r2, h1, hX⟩ := bd_go hX
  refine k_X12_isArm hx hb hml hown htg hK hW hS h1 q404 hl.1 (Nat.le_of_ble_eq_true rfl) (Nat.le_of_ble_eq_true rfl) (Nat.le_of_ble_eq_true rfl) ⟨Nat.zero_le _, Nat.zero_le _⟩ dX12_setReach_1 (fun H locs hW hS => ?_)
  refine lv_if_ne (tgt := 13) hx hb dX12_setReach_4 (by decide) (fun c3 => ?_) (fun c3 => ?_)
  · have hX := it_f hX c3
    refine lv_iload_n hx hb dX12_setReach_13 rfl (lv_at hl 2 rfl) ?_
    refine lv_iconst (v := (0 : Int32)) hx hb dX12_setReach_14 (by decide) ?_
    refine lv_sipush (v := (255 : Int32)) hx hb dX12_setReach_15 (by decide) ?_
    obtain ⟨r5, h4, hX⟩ := bd_go hX
    refine k_X12_isBetween hx hb hml hown htg hK hW hS h4 q319 hl.1 (Nat.le_of_ble_eq_true rfl) (Nat.le_of_ble_eq_true rfl) (Nat.le_of_ble_eq_true rfl) ⟨Nat.zero_le _, Nat.zero_le _⟩ dX12_setReach_18 (fun H locs hW hS => ?_)
    refine lv_if_ne (tgt := 30) hx hb dX12_setReach_21 (by decide) (fun c6 => ?_) (fun c6 => ?_)
    · have hX := it_f hX c6
      refine lv_aload_n hx hb dX12_setReach_30 rfl (lv_at hl 0 rfl) ?_
      refine lv_iconst (v := (0 : Int32)) hx hb dX12_setReach_31 (by decide) ?_
      refine pf_40_0 hx hb htg hown hK hW hS q311 dX12_setReach_32 (fun H locs hW hS => ?_)
      obtain ⟨y7, e9⟩ : ∃ w : Mem, w = (up4 y 40 0 0 0 (0 : Int32)) := ⟨_, rfl⟩
      rw [← e9] at hW
      have hX := lt_go hX e9
      refine lv_aload_n hx hb dX12_setReach_35 rfl (lv_at hl 0 rfl) ?_
      obtain ⟨y10, h8, hX⟩ := bd_go hX
      refine k_X12_remembers hx hb hml hown htg hK hW hS h8 q341 hl.1 (Nat.le_of_ble_eq_true rfl) (Nat.le_of_ble_eq_true rfl) (Nat.le_of_ble_eq_true rfl) ⟨Nat.zero_le _, Nat.zero_le _⟩ dX12_setReach_36 (fun H locs hW hS => ?_)
      refine lv_aload_n hx hb dX12_setReach_39 rfl (lv_at hl 0 rfl) ?_
      refine gf_40_10 hx hb htg hown hK hW q145 dX12_setReach_40 ?_
      refine lv_iload_n hx hb dX12_setReach_43 rfl (lv_at hl 1 rfl) ?_
      obtain ⟨g11, hX⟩ := gd_go hX
      refine al_110 hx hb hK hW g11 dX12_setReach_44 ?_
      refine lv_topi (fun x3_12 e9 => ?_)
      have hX := lt_go hX e9
      refine lv_istore_n (lv' := [(3, .int x3_12), (0, .ref (gA G 40 0 0)), (1, .int p0), (2, .int p1)]) hx hb dX12_setReach_45 rfl hl (by decide) rfl (fun ls hl => ?_)
      refine lv_aload_n hx hb dX12_setReach_46 rfl (lv_at hl 1 rfl) ?_
      refine gf_40_10 hx hb htg hown hK hW q145 dX12_setReach_47 ?_
      refine lv_iload_n hx hb dX12_setReach_50 rfl (lv_at hl 2 rfl) ?_
      refine lv_iload_n hx hb dX12_setReach_51 rfl (lv_at hl 3 rfl) ?_
      refine as_110 hx hb hK hW hS g11 dX12_setReach_52 (fun H locs hW hS => ?_)
      obtain ⟨y13, e9⟩ : ∃ w : Mem, w = (up4 y10 110 0 0 p0.toNatClampNeg p1) := ⟨_, rfl⟩
      rw [← e9] at hW
      have hX := lt_go hX e9
      refine lv_iload_n hx hb dX12_setReach_53 rfl (lv_at hl 0 rfl) ?_
      have hX := Option.some.inj hX
      subst hX
      exact rt_i hx hb hr hlocks hW hS dX12_setReach_54
    · have hX := it_t hX c6
      refine lv_aload_n hx hb dX12_setReach_24 rfl (lv_at hl 0 rfl) ?_
      refine lv_iconst (v := (2 : Int32)) hx hb dX12_setReach_25 (by decide) ?_
      obtain ⟨r15, y16, h14, hX⟩ := bd2_go hX
      refine k_X12_fails hx hb hml hown htg hK hW hS h14 q407 hl.1 (Nat.le_of_ble_eq_true rfl) (Nat.le_of_ble_eq_true rfl) (Nat.le_of_ble_eq_true rfl) ⟨Nat.zero_le _, Nat.zero_le _⟩ dX12_setReach_26 (fun H locs hW hS => ?_)
      have hX := Option.some.inj hX
      subst hX
      exact rt_i hx hb hr hlocks hW hS dX12_setReach_29
  · have hX := it_t hX c3
    refine lv_aload_n hx hb dX12_setReach_7 rfl (lv_at hl 0 rfl) ?_
    refine lv_iconst (v := (1 : Int32)) hx hb dX12_setReach_8 (by decide) ?_
    obtain ⟨r18, y19, h17, hX⟩ := bd2_go hX
    refine k_X12_fails hx hb hml hown htg hK hW hS h17 q407 hl.1 (Nat.le_of_ble_eq_true rfl) (Nat.le_of_ble_eq_true rfl) (Nat.le_of_ble_eq_true rfl) ⟨Nat.zero_le _, Nat.zero_le _⟩ dX12_setReach_9 (fun H locs hW hS => ?_)
    have hX := Option.some.inj hX
    subst hX
    exact rt_i hx hb hr hlocks hW hS dX12_setReach_12
set_option maxHeartbeats 4000000 in
theorem k_X12_setReach {p : Program} {l : Launch} {e : Env} {R : Room} {s : State} {m : MethodId} {args : Array Value} {below : List Frame} {meth : Method} {c : Code} {H : Heap} {locs : List Loc} {cells slots : Nat} {Q : State → Prop} {cc : ByteArray} {pc nL idx : Nat} {own : String} {ls : Array Slot} {rest : List Value} {G : Geo} {x y : Mem} {H0 : Heap} {p0 : Int32} {p1 : Int32} {v : Int32} {z : Mem} (hx : p.tables.exec = Jvm.exec) (hb : c.code = cc) (hml : c.maxLocals = nL) (hown : s.vm.findClass own = some m.cls) (htg : ∀ w ∈ wsG, w.before args s = true) (hK : Kt G s) (hW : Wh G x y H) (hS : va_S (gF G) H0 H locs) (h : m_X12_setReach p0 p1 y = some (v, z)) (hlk : Cond.methodLink own idx yX12_setReach ∈ wsG) (hn : ls.size = nL) (hr : (rest.map fun v => v.category).sum ≤ 8) (hR1 : 4 + 1 ≤ R.frames) (hR2 : 8 + (4 + 11) + 88 ≤ R.locals) (hf : cells ≤ R.cells ∧ slots ≤ R.slots) (hdg : decode cc pc = .ok (.invokevirtual idx, 3)) (kk : ∀ (H1 : Heap) (locs1 : List Loc), Wh G x z H1 → va_S (gF G) H0 H1 locs1 → W p l e R s m args below meth c H1 locs1 cells slots Q (F0 m (pc + 3) ls (.int v :: rest))) : W p l e R s m args below meth c H locs cells slots Q (F0 m pc ls (.int p1 :: .int p0 :: .ref (gA G 40 0 0) :: rest)) := by
  refine va_calli (va_runV (As := [.int p0, .int p1]) (rest := rest) ⟨hx, hb, hml, hown, htg⟩ (c_X12_setReach l G x y p0 p1 (v, z) h) (cwV 2 htg (gd_V hlk q401 q402 q5 q403) rfl rfl rfl (by decide +kernel) ⟨hR1, hR2⟩) ⟨fun a U g mk q => ⟨q.1, q.2.1.calling, q.2.2⟩, rc_40 hK hW, fun U hU hW9 => ⟨rfl, hK.warm hW9, by rw [hU]; exact hW⟩⟩ rfl rfl hn rfl (lv_room hr) hdg hf) hS (fun _ _ h9 => h9) (fun _ h9 => h9) ?_
  intro r9 u t H1 locs1 ht hvm hw hB hz1 hk1 hS1
  replace hB : Wh G x z t.heap := hB
  rw [ht] at hB
  replace hw : r9 = v := hw
  subst hw
  exact kk H1 locs1 hB hS1
/-! METHOD X12_supply -/
def m_X12_supply (p0 : Int32) (y : Mem) : Option (Int32 × Mem) :=
  bd_ (m_X12_isBuffer p0) fun r2 => if r2 = 0 then (bd2_ (m_X12_fails (1 : Int32) y) fun r18 y19 => some (r18, y19)) else (gd_ p0 3 (if ((y 104 0 0 p0.toNatClampNeg) + (y 106 0 0 p0.toNatClampNeg)) < (y 103 0 0 p0.toNatClampNeg) then (lt_ (up4 y 40 0 0 0 (0 : Int32)) fun y6 => bd_ (m_X12_remembers y6) fun y9 => bd_ (m_X12_comesPart p0 (y9 40 0 0 35) y9) fun y12 => lt_ (up4 y12 40 0 0 35 ((y12 40 0 0 35) + (1 : Int32))) fun y13 => some (((y13 40 0 0 35) - (1 : Int32)), y13)) else (bd2_ (m_X12_fails (2 : Int32) y) fun r15 y16 => some (r15, y16))))
abbrev WS_X12_supply : List Cond := .code yX12_supply cX12_supply 2 (some .int) :: wsG
abbrev RM_X12_supply : Room := { frames := 4, cells := 0, slots := 0, locals := 88 }
set_option maxHeartbeats 4000000 in
set_option maxRecDepth 100000 in
theorem c_X12_supply (l : Launch) (G : Geo) (x y : Mem) (p0 : Int32) (r : (Int32 × Mem)) (h : m_X12_supply p0 y = some r) : Met l yX12_supply WS_X12_supply RM_X12_supply (Pw G x y [.ref (gA G 40 0 0), .int p0]) (Qi G x r.2 r.1) 0 0 (gF G) := by
  refine Met.ofW (cc := cX12_supply) (maxL := 2) (ret := (some .int)) (by decide) rfl ?_
  intro p e s m args below meth c s₁ B hml hv
  obtain ⟨rfl, hK, hW⟩ := hv
  have hx := B.exec
  have hb := B.bytes
  have hr := B.returns
  have hts := atoms_spec (ws := WS_X12_supply) B.pre
  have htg : ∀ w ∈ wsG, w.before _ s = true := fun w h => hts w (List.mem_cons_of_mem _ h)
  have hown : s.vm.findClass RX12 = some m.cls := findClass_of_methodNamed B.named
  have hlocks := B.notSynchronized
  have hS : va_S (gF G) s.heap s.heap [] := va_S.rf
  have hl := lv_entry ([.ref (gA G 40 0 0), .int p0]) (n := 2) (Nat.le_of_ble_eq_true rfl)
  rw [lg_entry_eq]
  generalize (lg_sl ([.ref (gA G 40 0 0), .int p0]) ++ List.replicate (2 - (lg_sl ([.ref (gA G 40 0 0), .int p0])).length) Slot.unset).toArray = ls at hl ⊢
  have hl : lv_has ls 2 [(0, .ref (gA G 40 0 0)), (1, .int p0)] := hl
  have hX := h
  unfold m_X12_supply at hX
  refine lv_iload_n hx hb dX12_supply_0 rfl (lv_at hl 1 rfl) ?_
  obtain ⟨r2, h1, hX⟩ := bd_go hX
  refine k_X12_isBuffer hx hb hml hown htg hK hW hS h1 q431 hl.1 (Nat.le_of_ble_eq_true rfl) (Nat.le_of_ble_eq_true rfl) (Nat.le_of_ble_eq_true rfl) ⟨Nat.zero_le _, Nat.zero_le _⟩ dX12_supply_1 (fun H locs hW hS => ?_)
  refine lv_if_ne (tgt := 13) hx hb dX12_supply_4 (by decide) (fun c3 => ?_) (fun c3 => ?_)
  · have hX := it_f hX c3
    refine lv_aload_n hx hb dX12_supply_13 rfl (lv_at hl 0 rfl) ?_
    refine gf_40_4 hx hb htg hown hK hW q139 dX12_supply_14 ?_
    refine lv_iload_n hx hb dX12_supply_17 rfl (lv_at hl 1 rfl) ?_
    obtain ⟨g4, hX⟩ := gd_go hX
    refine al_104 hx hb hK hW g4 dX12_supply_18 ?_
    refine lv_aload_n hx hb dX12_supply_19 rfl (lv_at hl 0 rfl) ?_
    refine gf_40_6 hx hb htg hown hK hW q141 dX12_supply_20 ?_
    refine lv_iload_n hx hb dX12_supply_23 rfl (lv_at hl 1 rfl) ?_
    refine al_106 hx hb hK hW g4 dX12_supply_24 ?_
    refine lv_iadd hx hb dX12_supply_25 ?_
    refine lv_aload_n hx hb dX12_supply_26 rfl (lv_at hl 0 rfl) ?_
    refine gf_40_3 hx hb htg hown hK hW q138 dX12_supply_27 ?_
    refine lv_iload_n hx hb dX12_supply_30 rfl (lv_at hl 1 rfl) ?_
    refine al_103 hx hb hK hW g4 dX12_supply_31 ?_
    refine lv_icmp_lt (tgt := 41) hx hb dX12_supply_32 (by decide) (fun c5 => ?_) (fun c5 => ?_)
    · have hX := it_t hX c5
      refine lv_aload_n hx hb dX12_supply_41 rfl (lv_at hl 0 rfl) ?_
      refine lv_iconst (v := (0 : Int32)) hx hb dX12_supply_42 (by decide) ?_
      refine pf_40_0 hx hb htg hown hK hW hS q311 dX12_supply_43 (fun H locs hW hS => ?_)
      obtain ⟨y6, e9⟩ : ∃ w : Mem, w = (up4 y 40 0 0 0 (0 : Int32)) := ⟨_, rfl⟩
      rw [← e9] at hW
      have hX := lt_go hX e9
      refine lv_aload_n hx hb dX12_supply_46 rfl (lv_at hl 0 rfl) ?_
      obtain ⟨y9, h7, hX⟩ := bd_go hX
      refine k_X12_remembers hx hb hml hown htg hK hW hS h7 q341 hl.1 (Nat.le_of_ble_eq_true rfl) (Nat.le_of_ble_eq_true rfl) (Nat.le_of_ble_eq_true rfl) ⟨Nat.zero_le _, Nat.zero_le _⟩ dX12_supply_47 (fun H locs hW hS => ?_)
      refine lv_aload_n hx hb dX12_supply_50 rfl (lv_at hl 0 rfl) ?_
      refine lv_iload_n hx hb dX12_supply_51 rfl (lv_at hl 1 rfl) ?_
      refine lv_aload_n hx hb dX12_supply_52 rfl (lv_at hl 0 rfl) ?_
      refine gf_40_35 hx hb htg hown hK hW q354 dX12_supply_53 ?_
      obtain ⟨y12, h10, hX⟩ := bd_go hX
      refine k_X12_comesPart hx hb hml hown htg hK hW hS h10 q457 hl.1 (Nat.le_of_ble_eq_true rfl) (Nat.le_of_ble_eq_true rfl) (Nat.le_of_ble_eq_true rfl) ⟨Nat.zero_le _, Nat.zero_le _⟩ dX12_supply_56 (fun H locs hW hS => ?_)
      refine lv_aload_n hx hb dX12_supply_59 rfl (lv_at hl 0 rfl) ?_
      refine lv_dup hx hb dX12_supply_60 rfl ?_
      refine gf_40_35 hx hb htg hown hK hW q354 dX12_supply_61 ?_
      refine lv_iconst (v := (1 : Int32)) hx hb dX12_supply_64 (by decide) ?_
      refine lv_iadd hx hb dX12_supply_65 ?_
      refine pf_40_35 hx hb htg hown hK hW hS q354 dX12_supply_66 (fun H locs hW hS => ?_)
      obtain ⟨y13, e9⟩ : ∃ w : Mem, w = (up4 y12 40 0 0 35 ((y12 40 0 0 35) + (1 : Int32))) := ⟨_, rfl⟩
      rw [← e9] at hW
      have hX := lt_go hX e9
      refine lv_aload_n hx hb dX12_supply_69 rfl (lv_at hl 0 rfl) ?_
      refine gf_40_35 hx hb htg hown hK hW q354 dX12_supply_70 ?_
      refine lv_iconst (v := (1 : Int32)) hx hb dX12_supply_73 (by decide) ?_
      refine lv_isub hx hb dX12_supply_74 ?_
      have hX := Option.some.inj hX
      subst hX
      exact rt_i hx hb hr hlocks hW hS dX12_supply_75
    · have hX := it_f hX c5
      refine lv_aload_n hx hb dX12_supply_35 rfl (lv_at hl 0 rfl) ?_
      refine lv_iconst (v := (2 : Int32)) hx hb dX12_supply_36 (by decide) ?_
      obtain ⟨r15, y16, h14, hX⟩ := bd2_go hX
      refine k_X12_fails hx hb hml hown htg hK hW hS h14 q407 hl.1 (Nat.le_of_ble_eq_true rfl) (Nat.le_of_ble_eq_true rfl) (Nat.le_of_ble_eq_true rfl) ⟨Nat.zero_le _, Nat.zero_le _⟩ dX12_supply_37 (fun H locs hW hS => ?_)
      have hX := Option.some.inj hX
      subst hX
      exact rt_i hx hb hr hlocks hW hS dX12_supply_40
  · have hX := it_t hX c3
    refine lv_aload_n hx hb dX12_supply_7 rfl (lv_at hl 0 rfl) ?_
    refine lv_iconst (v := (1 : Int32)) hx hb dX12_supply_8 (by decide) ?_
    obtain ⟨r18, y19, h17, hX⟩ := bd2_go hX
    refine k_X12_fails hx hb hml hown htg hK hW hS h17 q407 hl.1 (Nat.le_of_ble_eq_true rfl) (Nat.le_of_ble_eq_true rfl) (Nat.le_of_ble_eq_true rfl) ⟨Nat.zero_le _, Nat.zero_le _⟩ dX12_supply_9 (fun H locs hW hS => ?_)
    have hX := Option.some.inj hX
    subst hX
    exact rt_i hx hb hr hlocks hW hS dX12_supply_12
set_option maxHeartbeats 4000000 in
theorem k_X12_supply {p : Program} {l : Launch} {e : Env} {R : Room} {s : State} {m : MethodId} {args : Array Value} {below : List Frame} {meth : Method} {c : Code} {H : Heap} {locs : List Loc} {cells slots : Nat} {Q : State → Prop} {cc : ByteArray} {pc nL idx : Nat} {own : String} {ls : Array Slot} {rest : List Value} {G : Geo} {x y : Mem} {H0 : Heap} {p0 : Int32} {v : Int32} {z : Mem} (hx : p.tables.exec = Jvm.exec) (hb : c.code = cc) (hml : c.maxLocals = nL) (hown : s.vm.findClass own = some m.cls) (htg : ∀ w ∈ wsG, w.before args s = true) (hK : Kt G s) (hW : Wh G x y H) (hS : va_S (gF G) H0 H locs) (h : m_X12_supply p0 y = some (v, z)) (hlk : Cond.methodLink own idx yX12_supply ∈ wsG) (hn : ls.size = nL) (hr : (rest.map fun v => v.category).sum ≤ 8) (hR1 : 4 + 1 ≤ R.frames) (hR2 : 8 + (2 + 11) + 88 ≤ R.locals) (hf : cells ≤ R.cells ∧ slots ≤ R.slots) (hdg : decode cc pc = .ok (.invokevirtual idx, 3)) (kk : ∀ (H1 : Heap) (locs1 : List Loc), Wh G x z H1 → va_S (gF G) H0 H1 locs1 → W p l e R s m args below meth c H1 locs1 cells slots Q (F0 m (pc + 3) ls (.int v :: rest))) : W p l e R s m args below meth c H locs cells slots Q (F0 m pc ls (.int p0 :: .ref (gA G 40 0 0) :: rest)) := by
  refine va_calli (va_runV (As := [.int p0]) (rest := rest) ⟨hx, hb, hml, hown, htg⟩ (c_X12_supply l G x y p0 (v, z) h) (cwV 1 htg (gd_V hlk q454 q455 q5 q456) rfl rfl rfl (by decide +kernel) ⟨hR1, hR2⟩) ⟨fun a U g mk q => ⟨q.1, q.2.1.calling, q.2.2⟩, rc_40 hK hW, fun U hU hW9 => ⟨rfl, hK.warm hW9, by rw [hU]; exact hW⟩⟩ rfl rfl hn rfl (lv_room hr) hdg hf) hS (fun _ _ h9 => h9) (fun _ h9 => h9) ?_
  intro r9 u t H1 locs1 ht hvm hw hB hz1 hk1 hS1
  replace hB : Wh G x z t.heap := hB
  rw [ht] at hB
  replace hw : r9 = v := hw
  subst hw
  exact kk H1 locs1 hB hS1
/-! METHOD X12_thrown -/
def m_X12_thrown (y : Mem) : Option Int32 :=
  some (y 40 0 0 0)
abbrev WS_X12_thrown : List Cond := .code yX12_thrown cX12_thrown 1 (some .int) :: wsG
abbrev RM_X12_thrown : Room := { frames := 0, cells := 0, slots := 0, locals := 0 }
set_option maxHeartbeats 4000000 in
set_option maxRecDepth 100000 in
theorem c_X12_thrown (l : Launch) (G : Geo) (x y : Mem) (r : Int32) (h : m_X12_thrown y = some r) : Met l yX12_thrown WS_X12_thrown RM_X12_thrown (Pw G x y [.ref (gA G 40 0 0)]) (Qi G x y r) 0 0 (gF G) := by
  refine Met.ofW (cc := cX12_thrown) (maxL := 1) (ret := (some .int)) (by decide) rfl ?_
  intro p e s m args below meth c s₁ B hml hv
  obtain ⟨rfl, hK, hW⟩ := hv
  have hx := B.exec
  have hb := B.bytes
  have hr := B.returns
  have hts := atoms_spec (ws := WS_X12_thrown) B.pre
  have htg : ∀ w ∈ wsG, w.before _ s = true := fun w h => hts w (List.mem_cons_of_mem _ h)
  have hown : s.vm.findClass RX12 = some m.cls := findClass_of_methodNamed B.named
  have hlocks := B.notSynchronized
  have hS : va_S (gF G) s.heap s.heap [] := va_S.rf
  have hl := lv_entry ([.ref (gA G 40 0 0)]) (n := 1) (Nat.le_of_ble_eq_true rfl)
  rw [lg_entry_eq]
  generalize (lg_sl ([.ref (gA G 40 0 0)]) ++ List.replicate (1 - (lg_sl ([.ref (gA G 40 0 0)])).length) Slot.unset).toArray = ls at hl ⊢
  have hl : lv_has ls 1 [(0, .ref (gA G 40 0 0))] := hl
  have hX := h
  unfold m_X12_thrown at hX
  refine lv_aload_n hx hb dX12_thrown_0 rfl (lv_at hl 0 rfl) ?_
  refine gf_40_0 hx hb htg hown hK hW q311 dX12_thrown_1 ?_
  have hX := Option.some.inj hX
  subst hX
  exact rt_i hx hb hr hlocks hW hS dX12_thrown_4
set_option maxHeartbeats 4000000 in
theorem k_X12_thrown {p : Program} {l : Launch} {e : Env} {R : Room} {s : State} {m : MethodId} {args : Array Value} {below : List Frame} {meth : Method} {c : Code} {H : Heap} {locs : List Loc} {cells slots : Nat} {Q : State → Prop} {cc : ByteArray} {pc nL idx : Nat} {own : String} {ls : Array Slot} {rest : List Value} {G : Geo} {x y : Mem} {H0 : Heap} {v : Int32} (hx : p.tables.exec = Jvm.exec) (hb : c.code = cc) (hml : c.maxLocals = nL) (hown : s.vm.findClass own = some m.cls) (htg : ∀ w ∈ wsG, w.before args s = true) (hK : Kt G s) (hW : Wh G x y H) (hS : va_S (gF G) H0 H locs) (h : m_X12_thrown y = some v) (hlk : Cond.methodLink own idx yX12_thrown ∈ wsG) (hn : ls.size = nL) (hr : (rest.map fun v => v.category).sum ≤ 8) (hR1 : 0 + 1 ≤ R.frames) (hR2 : 8 + (1 + 11) + 0 ≤ R.locals) (hf : cells ≤ R.cells ∧ slots ≤ R.slots) (hdg : decode cc pc = .ok (.invokevirtual idx, 3)) (kk : ∀ (H1 : Heap) (locs1 : List Loc), Wh G x y H1 → va_S (gF G) H0 H1 locs1 → W p l e R s m args below meth c H1 locs1 cells slots Q (F0 m (pc + 3) ls (.int v :: rest))) : W p l e R s m args below meth c H locs cells slots Q (F0 m pc ls (.ref (gA G 40 0 0) :: rest)) := by
  refine va_calli (va_runV (As := []) (rest := rest) ⟨hx, hb, hml, hown, htg⟩ (c_X12_thrown l G x y v h) (cwV 0 htg (gd_V hlk q381 q382 q5 q383) rfl rfl rfl (by decide +kernel) ⟨hR1, hR2⟩) ⟨fun a U g mk q => ⟨q.1, q.2.1.calling, q.2.2⟩, rc_40 hK hW, fun U hU hW9 => ⟨rfl, hK.warm hW9, by rw [hU]; exact hW⟩⟩ rfl rfl hn rfl (lv_room hr) hdg hf) hS (fun _ _ h9 => h9) (fun _ h9 => h9) ?_
  intro r9 u t H1 locs1 ht hvm hw hB hz1 hk1 hS1
  replace hB : Wh G x y t.heap := hB
  rw [ht] at hB
  replace hw : r9 = v := hw
  subst hw
  exact kk H1 locs1 hB hS1
/-! METHOD X12_tick -/
def m_X12_tick_b32 (p0 : Int32) (k32 : Int32 → Int32 → Mem → Option (Int32 × Mem)) (x2 : Int32) (x3 : Int32) (y : Mem) : Option (Int32 × Mem) :=
  if p0 ≤ x3 then (some (((y 40 0 0 37) - x2), y)) else (bd_ (m_X12_ticks y) fun y16 => lt_ (x3 + (1 : Int32)) fun x3_17 => k32 x2 x3_17 y16)
def m_X12_tick_l32 (p0 : Int32) : Nat → Int32 → Int32 → Mem → Option (Int32 × Mem)
  | 0, _, _, _ => none
  | n + 1, x2, x3, y => m_X12_tick_b32 p0 (m_X12_tick_l32 p0 n) x2 x3 y
def m_X12_tick (p0 : Int32) (y : Mem) : Option (Int32 × Mem) :=
  bd_ (m_X12_isBetween p0 (1 : Int32) (50 : Int32)) fun r2 => if r2 = 0 then (bd2_ (m_X12_fails (1 : Int32) y) fun r11 y12 => some (r11, y12)) else (lt_ (up4 y 40 0 0 0 (0 : Int32)) fun y4 => bd_ (m_X12_remembers y4) fun y7 => lt_ (y7 40 0 0 37) fun x2_8 => lt_ (0 : Int32) fun x3_9 => m_X12_tick_l32 p0 FU x2_8 x3_9 y7)
abbrev WS_X12_tick : List Cond := .code yX12_tick cX12_tick 4 (some .int) :: wsG
abbrev RM_X12_tick : Room := { frames := 9, cells := 0, slots := 0, locals := 206 }
set_option maxHeartbeats 4000000 in
set_option maxRecDepth 100000 in
theorem c_X12_tick (l : Launch) (G : Geo) (x y : Mem) (p0 : Int32) (r : (Int32 × Mem)) (h : m_X12_tick p0 y = some r) : Met l yX12_tick WS_X12_tick RM_X12_tick (Pw G x y [.ref (gA G 40 0 0), .int p0]) (Qi G x r.2 r.1) 0 0 (gF G) := by
  refine Met.ofW (cc := cX12_tick) (maxL := 4) (ret := (some .int)) (by decide) rfl ?_
  intro p e s m args below meth c s₁ B hml hv
  obtain ⟨rfl, hK, hW⟩ := hv
  have hx := B.exec
  have hb := B.bytes
  have hr := B.returns
  have hts := atoms_spec (ws := WS_X12_tick) B.pre
  have htg : ∀ w ∈ wsG, w.before _ s = true := fun w h => hts w (List.mem_cons_of_mem _ h)
  have hown : s.vm.findClass RX12 = some m.cls := findClass_of_methodNamed B.named
  have hlocks := B.notSynchronized
  have hS : va_S (gF G) s.heap s.heap [] := va_S.rf
  have hl := lv_entry ([.ref (gA G 40 0 0), .int p0]) (n := 4) (Nat.le_of_ble_eq_true rfl)
  rw [lg_entry_eq]
  generalize (lg_sl ([.ref (gA G 40 0 0), .int p0]) ++ List.replicate (4 - (lg_sl ([.ref (gA G 40 0 0), .int p0])).length) Slot.unset).toArray = ls at hl ⊢
  have hl : lv_has ls 4 [(0, .ref (gA G 40 0 0)), (1, .int p0)] := hl
  have hX := h
  unfold m_X12_tick at hX
  have B_32 : ∀ (k32 : Int32 → Int32 → Mem → Option (Int32 × Mem)) (hk32 : ∀ (x2 : Int32) (x3 : Int32) (y : Mem) (H : Heap) (locs : List Loc) (ls : Array Slot), Wh G x y H → va_S (gF G) s.heap H locs → lv_has ls 4 [(0, .ref (gA G 40 0 0)), (1, .int p0), (2, .int x2), (3, .int x3)] → k32 x2 x3 y = some r → W p l e (headSpec WS_X12_tick RM_X12_tick).room s m ([.ref (gA G 40 0 0), .int p0] : List Value).toArray below meth c H locs 0 0 (MQ below (Qi G x r.2 r.1) ([.ref (gA G 40 0 0), .int p0] : List Value).toArray s 0 0 (gF G)) (F0 m 32 ls [])), ∀ (x2 : Int32) (x3 : Int32) (y : Mem) (H : Heap) (locs : List Loc) (ls : Array Slot), Wh G x y H → va_S (gF G) s.heap H locs → lv_has ls 4 [(0, .ref (gA G 40 0 0)), (1, .int p0), (2, .int x2), (3, .int x3)] → m_X12_tick_b32 p0 k32 x2 x3 y = some r → W p l e (headSpec WS_X12_tick RM_X12_tick).room s m ([.ref (gA G 40 0 0), .int p0] : List Value).toArray below meth c H locs 0 0 (MQ below (Qi G x r.2 r.1) ([.ref (gA G 40 0 0), .int p0] : List Value).toArray s 0 0 (gF G)) (F0 m 32 ls []) := by
    intro k32 hk32 x2 x3 y H locs ls hW hS hl hX
    unfold m_X12_tick_b32 at hX
    refine lv_iload_n hx hb dX12_tick_32 rfl (lv_at hl 3 rfl) ?_
    refine lv_iload_n hx hb dX12_tick_33 rfl (lv_at hl 1 rfl) ?_
    refine lv_icmp_ge (tgt := 47) hx hb dX12_tick_34 (by decide) (fun c13 => ?_) (fun c13 => ?_)
    · have hX := it_t hX c13
      refine lv_aload_n hx hb dX12_tick_47 rfl (lv_at hl 0 rfl) ?_
      refine gf_40_37 hx hb htg hown hK hW q356 dX12_tick_48 ?_
      refine lv_iload_n hx hb dX12_tick_51 rfl (lv_at hl 2 rfl) ?_
      refine lv_isub hx hb dX12_tick_52 ?_
      have hX := Option.some.inj hX
      subst hX
      exact rt_i hx hb hr hlocks hW hS dX12_tick_53
    · have hX := it_f hX c13
      refine lv_aload_n hx hb dX12_tick_37 rfl (lv_at hl 0 rfl) ?_
      obtain ⟨y16, h14, hX⟩ := bd_go hX
      refine k_X12_ticks hx hb hml hown htg hK hW hS h14 q840 hl.1 (Nat.le_of_ble_eq_true rfl) (Nat.le_of_ble_eq_true rfl) (Nat.le_of_ble_eq_true rfl) ⟨Nat.zero_le _, Nat.zero_le _⟩ dX12_tick_38 (fun H locs hW hS => ?_)
      obtain ⟨x3_17, e9⟩ : ∃ w : Int32, w = (x3 + (1 : Int32)) := ⟨_, rfl⟩
      have hX := lt_go hX e9
      refine lv_iinc (v := x3_17) (lv' := [(3, .int x3_17), (0, .ref (gA G 40 0 0)), (1, .int p0), (2, .int x2)]) hx hb dX12_tick_41 hl (k := 3) rfl (by rw [e9]; rfl) (by decide) rfl (fun ls hl => ?_)
      refine lv_goto (tgt := 32) hx hb dX12_tick_44 (by decide) ?_
      exact hk32 _ _ _ _ _ _ hW hS (lv_sub hl [1, 2, 3, 0] rfl) hX
  have L_32 : ∀ (n : Nat), ∀ (x2 : Int32) (x3 : Int32) (y : Mem) (H : Heap) (locs : List Loc) (ls : Array Slot), Wh G x y H → va_S (gF G) s.heap H locs → lv_has ls 4 [(0, .ref (gA G 40 0 0)), (1, .int p0), (2, .int x2), (3, .int x3)] → m_X12_tick_l32 p0 n x2 x3 y = some r → W p l e (headSpec WS_X12_tick RM_X12_tick).room s m ([.ref (gA G 40 0 0), .int p0] : List Value).toArray below meth c H locs 0 0 (MQ below (Qi G x r.2 r.1) ([.ref (gA G 40 0 0), .int p0] : List Value).toArray s 0 0 (gF G)) (F0 m 32 ls []) := by
    intro n
    induction n with
    | zero => intro x2 x3 y H locs ls hW hS hl hX; exact no_go hX
    | succ n ih => intro x2 x3 y H locs ls hW hS hl hX; exact B_32 _ ih _ _ _ _ _ _ hW hS hl hX
  refine lv_iload_n hx hb dX12_tick_0 rfl (lv_at hl 1 rfl) ?_
  refine lv_iconst (v := (1 : Int32)) hx hb dX12_tick_1 (by decide) ?_
  refine lv_bipush (v := (50 : Int32)) hx hb dX12_tick_2 (by decide) ?_
  obtain ⟨r2, h1, hX⟩ := bd_go hX
  refine k_X12_isBetween hx hb hml hown htg hK hW hS h1 q319 hl.1 (Nat.le_of_ble_eq_true rfl) (Nat.le_of_ble_eq_true rfl) (Nat.le_of_ble_eq_true rfl) ⟨Nat.zero_le _, Nat.zero_le _⟩ dX12_tick_4 (fun H locs hW hS => ?_)
  refine lv_if_ne (tgt := 16) hx hb dX12_tick_7 (by decide) (fun c3 => ?_) (fun c3 => ?_)
  · have hX := it_f hX c3
    refine lv_aload_n hx hb dX12_tick_16 rfl (lv_at hl 0 rfl) ?_
    refine lv_iconst (v := (0 : Int32)) hx hb dX12_tick_17 (by decide) ?_
    refine pf_40_0 hx hb htg hown hK hW hS q311 dX12_tick_18 (fun H locs hW hS => ?_)
    obtain ⟨y4, e9⟩ : ∃ w : Mem, w = (up4 y 40 0 0 0 (0 : Int32)) := ⟨_, rfl⟩
    rw [← e9] at hW
    have hX := lt_go hX e9
    refine lv_aload_n hx hb dX12_tick_21 rfl (lv_at hl 0 rfl) ?_
    obtain ⟨y7, h5, hX⟩ := bd_go hX
    refine k_X12_remembers hx hb hml hown htg hK hW hS h5 q341 hl.1 (Nat.le_of_ble_eq_true rfl) (Nat.le_of_ble_eq_true rfl) (Nat.le_of_ble_eq_true rfl) ⟨Nat.zero_le _, Nat.zero_le _⟩ dX12_tick_22 (fun H locs hW hS => ?_)
    refine lv_aload_n hx hb dX12_tick_25 rfl (lv_at hl 0 rfl) ?_
    refine gf_40_37 hx hb htg hown hK hW q356 dX12_tick_26 ?_
    refine lv_topi (fun x2_8 e9 => ?_)
    have hX := lt_go hX e9
    refine lv_istore_n (lv' := [(2, .int x2_8), (0, .ref (gA G 40 0 0)), (1, .int p0)]) hx hb dX12_tick_29 rfl hl (by decide) rfl (fun ls hl => ?_)
    refine lv_iconst (v := (0 : Int32)) hx hb dX12_tick_30 (by decide) ?_
    refine lv_topi (fun x3_9 e9 => ?_)
    have hX := lt_go hX e9
    refine lv_istore_n (lv' := [(3, .int x3_9), (2, .int x2_8), (0, .ref (gA G 40 0 0)), (1, .int p0)]) hx hb dX12_tick_31 rfl hl (by decide) rfl (fun ls hl => ?_)
    exact L_32 FU _ _ _ _ _ _ hW hS (lv_sub hl [2, 3, 1, 0] rfl) hX
  · have hX := it_t hX c3
    refine lv_aload_n hx hb dX12_tick_10 rfl (lv_at hl 0 rfl) ?_
    refine lv_iconst (v := (1 : Int32)) hx hb dX12_tick_11 (by decide) ?_
    obtain ⟨r11, y12, h10, hX⟩ := bd2_go hX
    refine k_X12_fails hx hb hml hown htg hK hW hS h10 q407 hl.1 (Nat.le_of_ble_eq_true rfl) (Nat.le_of_ble_eq_true rfl) (Nat.le_of_ble_eq_true rfl) ⟨Nat.zero_le _, Nat.zero_le _⟩ dX12_tick_12 (fun H locs hW hS => ?_)
    have hX := Option.some.inj hX
    subst hX
    exact rt_i hx hb hr hlocks hW hS dX12_tick_15
set_option maxHeartbeats 4000000 in
theorem k_X12_tick {p : Program} {l : Launch} {e : Env} {R : Room} {s : State} {m : MethodId} {args : Array Value} {below : List Frame} {meth : Method} {c : Code} {H : Heap} {locs : List Loc} {cells slots : Nat} {Q : State → Prop} {cc : ByteArray} {pc nL idx : Nat} {own : String} {ls : Array Slot} {rest : List Value} {G : Geo} {x y : Mem} {H0 : Heap} {p0 : Int32} {v : Int32} {z : Mem} (hx : p.tables.exec = Jvm.exec) (hb : c.code = cc) (hml : c.maxLocals = nL) (hown : s.vm.findClass own = some m.cls) (htg : ∀ w ∈ wsG, w.before args s = true) (hK : Kt G s) (hW : Wh G x y H) (hS : va_S (gF G) H0 H locs) (h : m_X12_tick p0 y = some (v, z)) (hlk : Cond.methodLink own idx yX12_tick ∈ wsG) (hn : ls.size = nL) (hr : (rest.map fun v => v.category).sum ≤ 8) (hR1 : 9 + 1 ≤ R.frames) (hR2 : 8 + (4 + 11) + 206 ≤ R.locals) (hf : cells ≤ R.cells ∧ slots ≤ R.slots) (hdg : decode cc pc = .ok (.invokevirtual idx, 3)) (kk : ∀ (H1 : Heap) (locs1 : List Loc), Wh G x z H1 → va_S (gF G) H0 H1 locs1 → W p l e R s m args below meth c H1 locs1 cells slots Q (F0 m (pc + 3) ls (.int v :: rest))) : W p l e R s m args below meth c H locs cells slots Q (F0 m pc ls (.int p0 :: .ref (gA G 40 0 0) :: rest)) := by
  refine va_calli (va_runV (As := [.int p0]) (rest := rest) ⟨hx, hb, hml, hown, htg⟩ (c_X12_tick l G x y p0 (v, z) h) (cwV 1 htg (gd_V hlk q837 q838 q5 q839) rfl rfl rfl (by decide +kernel) ⟨hR1, hR2⟩) ⟨fun a U g mk q => ⟨q.1, q.2.1.calling, q.2.2⟩, rc_40 hK hW, fun U hU hW9 => ⟨rfl, hK.warm hW9, by rw [hU]; exact hW⟩⟩ rfl rfl hn rfl (lv_room hr) hdg hf) hS (fun _ _ h9 => h9) (fun _ h9 => h9) ?_
  intro r9 u t H1 locs1 ht hvm hw hB hz1 hk1 hS1
  replace hB : Wh G x z t.heap := hB
  rw [ht] at hB
  replace hw : r9 = v := hw
  subst hw
  exact kk H1 locs1 hB hS1
/-! METHOD X12_undo -/
def m_X12_undo (y : Mem) : Option (Int32 × Mem) :=
  if (y 40 0 0 59) = 0 then (bd2_ (m_X12_fails (1 : Int32) y) fun r8 y9 => some (r8, y9)) else (lt_ (up4 y 40 0 0 0 (0 : Int32)) fun y2 => lt_ (up4 y2 40 0 0 59 ((y2 40 0 0 59) - (1 : Int32))) fun y3 => bd_ (m_X12_passAll (155, 0, 0) 3438 ((573 : Int32) * (y3 40 0 0 59)) (0 : Int32) y3) fun y6 => some ((y6 40 0 0 59), y6))
abbrev WS_X12_undo : List Cond := .code yX12_undo cX12_undo 1 (some .int) :: wsG
abbrev RM_X12_undo : Room := { frames := 3, cells := 0, slots := 0, locals := 67 }
set_option maxHeartbeats 4000000 in
set_option maxRecDepth 100000 in
theorem c_X12_undo (l : Launch) (G : Geo) (x y : Mem) (r : (Int32 × Mem)) (h : m_X12_undo y = some r) : Met l yX12_undo WS_X12_undo RM_X12_undo (Pw G x y [.ref (gA G 40 0 0)]) (Qi G x r.2 r.1) 0 0 (gF G) := by
  refine Met.ofW (cc := cX12_undo) (maxL := 1) (ret := (some .int)) (by decide) rfl ?_
  intro p e s m args below meth c s₁ B hml hv
  obtain ⟨rfl, hK, hW⟩ := hv
  have hx := B.exec
  have hb := B.bytes
  have hr := B.returns
  have hts := atoms_spec (ws := WS_X12_undo) B.pre
  have htg : ∀ w ∈ wsG, w.before _ s = true := fun w h => hts w (List.mem_cons_of_mem _ h)
  have hown : s.vm.findClass RX12 = some m.cls := findClass_of_methodNamed B.named
  have hlocks := B.notSynchronized
  have hS : va_S (gF G) s.heap s.heap [] := va_S.rf
  have hl := lv_entry ([.ref (gA G 40 0 0)]) (n := 1) (Nat.le_of_ble_eq_true rfl)
  rw [lg_entry_eq]
  generalize (lg_sl ([.ref (gA G 40 0 0)]) ++ List.replicate (1 - (lg_sl ([.ref (gA G 40 0 0)])).length) Slot.unset).toArray = ls at hl ⊢
  have hl : lv_has ls 1 [(0, .ref (gA G 40 0 0))] := hl
  have hX := h
  unfold m_X12_undo at hX
  refine lv_aload_n hx hb dX12_undo_0 rfl (lv_at hl 0 rfl) ?_
  refine gf_40_59 hx hb htg hown hK hW q345 dX12_undo_1 ?_
  refine lv_if_ne (tgt := 13) hx hb dX12_undo_4 (by decide) (fun c1 => ?_) (fun c1 => ?_)
  · have hX := it_f hX c1
    refine lv_aload_n hx hb dX12_undo_13 rfl (lv_at hl 0 rfl) ?_
    refine lv_iconst (v := (0 : Int32)) hx hb dX12_undo_14 (by decide) ?_
    refine pf_40_0 hx hb htg hown hK hW hS q311 dX12_undo_15 (fun H locs hW hS => ?_)
    obtain ⟨y2, e9⟩ : ∃ w : Mem, w = (up4 y 40 0 0 0 (0 : Int32)) := ⟨_, rfl⟩
    rw [← e9] at hW
    have hX := lt_go hX e9
    refine lv_aload_n hx hb dX12_undo_18 rfl (lv_at hl 0 rfl) ?_
    refine lv_dup hx hb dX12_undo_19 rfl ?_
    refine gf_40_59 hx hb htg hown hK hW q345 dX12_undo_20 ?_
    refine lv_iconst (v := (1 : Int32)) hx hb dX12_undo_23 (by decide) ?_
    refine lv_isub hx hb dX12_undo_24 ?_
    refine pf_40_59 hx hb htg hown hK hW hS q345 dX12_undo_25 (fun H locs hW hS => ?_)
    obtain ⟨y3, e9⟩ : ∃ w : Mem, w = (up4 y2 40 0 0 59 ((y2 40 0 0 59) - (1 : Int32))) := ⟨_, rfl⟩
    rw [← e9] at hW
    have hX := lt_go hX e9
    refine lv_aload_n hx hb dX12_undo_28 rfl (lv_at hl 0 rfl) ?_
    refine lv_aload_n hx hb dX12_undo_29 rfl (lv_at hl 0 rfl) ?_
    refine gf_40_55 hx hb htg hown hK hW q175 dX12_undo_30 ?_
    refine lv_sipush (v := (573 : Int32)) hx hb dX12_undo_33 (by decide) ?_
    refine lv_aload_n hx hb dX12_undo_36 rfl (lv_at hl 0 rfl) ?_
    refine gf_40_59 hx hb htg hown hK hW q345 dX12_undo_37 ?_
    refine lv_imul hx hb dX12_undo_40 ?_
    refine lv_iconst (v := (0 : Int32)) hx hb dX12_undo_41 (by decide) ?_
    obtain ⟨y6, h4, hX⟩ := bd_go hX
    refine k_X12_passAll hx hb hml hown htg hK hW hS (ia_155) (show ¬ (155 : Nat) < 40 by decide) h4 q346 hl.1 (Nat.le_of_ble_eq_true rfl) (Nat.le_of_ble_eq_true rfl) (Nat.le_of_ble_eq_true rfl) ⟨Nat.zero_le _, Nat.zero_le _⟩ dX12_undo_42 (fun H locs hW hS => ?_)
    refine lv_aload_n hx hb dX12_undo_45 rfl (lv_at hl 0 rfl) ?_
    refine gf_40_59 hx hb htg hown hK hW q345 dX12_undo_46 ?_
    have hX := Option.some.inj hX
    subst hX
    exact rt_i hx hb hr hlocks hW hS dX12_undo_49
  · have hX := it_t hX c1
    refine lv_aload_n hx hb dX12_undo_7 rfl (lv_at hl 0 rfl) ?_
    refine lv_iconst (v := (1 : Int32)) hx hb dX12_undo_8 (by decide) ?_
    obtain ⟨r8, y9, h7, hX⟩ := bd2_go hX
    refine k_X12_fails hx hb hml hown htg hK hW hS h7 q407 hl.1 (Nat.le_of_ble_eq_true rfl) (Nat.le_of_ble_eq_true rfl) (Nat.le_of_ble_eq_true rfl) ⟨Nat.zero_le _, Nat.zero_le _⟩ dX12_undo_9 (fun H locs hW hS => ?_)
    have hX := Option.some.inj hX
    subst hX
    exact rt_i hx hb hr hlocks hW hS dX12_undo_12
set_option maxHeartbeats 4000000 in
theorem k_X12_undo {p : Program} {l : Launch} {e : Env} {R : Room} {s : State} {m : MethodId} {args : Array Value} {below : List Frame} {meth : Method} {c : Code} {H : Heap} {locs : List Loc} {cells slots : Nat} {Q : State → Prop} {cc : ByteArray} {pc nL idx : Nat} {own : String} {ls : Array Slot} {rest : List Value} {G : Geo} {x y : Mem} {H0 : Heap} {v : Int32} {z : Mem} (hx : p.tables.exec = Jvm.exec) (hb : c.code = cc) (hml : c.maxLocals = nL) (hown : s.vm.findClass own = some m.cls) (htg : ∀ w ∈ wsG, w.before args s = true) (hK : Kt G s) (hW : Wh G x y H) (hS : va_S (gF G) H0 H locs) (h : m_X12_undo y = some (v, z)) (hlk : Cond.methodLink own idx yX12_undo ∈ wsG) (hn : ls.size = nL) (hr : (rest.map fun v => v.category).sum ≤ 8) (hR1 : 3 + 1 ≤ R.frames) (hR2 : 8 + (1 + 11) + 67 ≤ R.locals) (hf : cells ≤ R.cells ∧ slots ≤ R.slots) (hdg : decode cc pc = .ok (.invokevirtual idx, 3)) (kk : ∀ (H1 : Heap) (locs1 : List Loc), Wh G x z H1 → va_S (gF G) H0 H1 locs1 → W p l e R s m args below meth c H1 locs1 cells slots Q (F0 m (pc + 3) ls (.int v :: rest))) : W p l e R s m args below meth c H locs cells slots Q (F0 m pc ls (.ref (gA G 40 0 0) :: rest)) := by
  refine va_calli (va_runV (As := []) (rest := rest) ⟨hx, hb, hml, hown, htg⟩ (c_X12_undo l G x y (v, z) h) (cwV 0 htg (gd_V hlk q1228 q1229 q5 q1230) rfl rfl rfl (by decide +kernel) ⟨hR1, hR2⟩) ⟨fun a U g mk q => ⟨q.1, q.2.1.calling, q.2.2⟩, rc_40 hK hW, fun U hU hW9 => ⟨rfl, hK.warm hW9, by rw [hU]; exact hW⟩⟩ rfl rfl hn rfl (lv_room hr) hdg hf) hS (fun _ _ h9 => h9) (fun _ h9 => h9) ?_
  intro r9 u t H1 locs1 ht hvm hw hB hz1 hk1 hS1
  replace hB : Wh G x z t.heap := hB
  rw [ht] at hB
  replace hw : r9 = v := hw
  subst hw
  exact kk H1 locs1 hB hS1
