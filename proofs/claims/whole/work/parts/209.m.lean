/-! METHOD X4_takeBackInto -/
def m_X4_takeBackInto (p0 : Fin 10) (x : Mem) : Option (Int32 × Mem) :=
  lt_ (up4 x 15 0 0 0 ((x 15 0 0 0) - (1 : Int32))) fun x1 => bd_ (m_X4_cellAt (x1 15 0 0 0) x1) fun r3 => bd_ (m_X1_copyFrom p0 r3 x1) fun x6 => some ((x6 15 0 0 0), x6)
abbrev WS_X4_takeBackInto : List Cond := .code yX4_takeBackInto cX4_takeBackInto 2 (some .int) :: wsG
abbrev RM_X4_takeBackInto : Room := { frames := 3, cells := 0, slots := 0, locals := 65 }
set_option maxHeartbeats 4000000 in
set_option maxRecDepth 100000 in
theorem c_X4_takeBackInto (l : Launch) (G : Geo) (x y : Mem) (p0 : Fin 10) (r : (Int32 × Mem)) (h : m_X4_takeBackInto p0 x = some r) : Met l yX4_takeBackInto WS_X4_takeBackInto RM_X4_takeBackInto (Pw G x y [.ref (gA G 15 0 0), .ref (gA G 2 ↑p0 0)]) (Qi G r.2 y r.1) 0 0 (gF G) := by
  refine Met.ofW (cc := cX4_takeBackInto) (maxL := 2) (ret := (some .int)) (by decide) rfl ?_
  intro p e s m args below meth c s₁ B hml hv
  obtain ⟨rfl, hK, hW⟩ := hv
  have hx := B.exec
  have hb := B.bytes
  have hr := B.returns
  have hts := atoms_spec (ws := WS_X4_takeBackInto) B.pre
  have htg : ∀ w ∈ wsG, w.before _ s = true := fun w h => hts w (List.mem_cons_of_mem _ h)
  have hown : s.vm.findClass RX4 = some m.cls := findClass_of_methodNamed B.named
  have hlocks := B.notSynchronized
  have hS : va_S (gF G) s.heap s.heap [] := va_S.rf
  have hl := lv_entry ([.ref (gA G 15 0 0), .ref (gA G 2 ↑p0 0)]) (n := 2) (Nat.le_of_ble_eq_true rfl)
  rw [lg_entry_eq]
  generalize (lg_sl ([.ref (gA G 15 0 0), .ref (gA G 2 ↑p0 0)]) ++ List.replicate (2 - (lg_sl ([.ref (gA G 15 0 0), .ref (gA G 2 ↑p0 0)])).length) Slot.unset).toArray = ls at hl ⊢
  have hl : lv_has ls 2 [(0, .ref (gA G 15 0 0)), (1, .ref (gA G 2 ↑p0 0))] := hl
  have hX := h
  unfold m_X4_takeBackInto at hX
  refine lv_aload_n hx hb dX4_takeBackInto_0 rfl (lv_at hl 0 rfl) ?_
  refine lv_dup hx hb dX4_takeBackInto_1 rfl ?_
  refine gf_15_0 hx hb htg hown hK hW q229 dX4_takeBackInto_2 ?_
  refine lv_iconst (v := (1 : Int32)) hx hb dX4_takeBackInto_5 (by decide) ?_
  refine lv_isub hx hb dX4_takeBackInto_6 ?_
  refine pf_15_0 hx hb htg hown hK hW hS q229 dX4_takeBackInto_7 (fun H locs hW hS => ?_)
  obtain ⟨x1, e9⟩ : ∃ w : Mem, w = (up4 x 15 0 0 0 ((x 15 0 0 0) - (1 : Int32))) := ⟨_, rfl⟩
  rw [← e9] at hW
  have hX := lt_go hX e9
  refine lv_aload_n hx hb dX4_takeBackInto_10 rfl (lv_at hl 1 rfl) ?_
  refine lv_aload_n hx hb dX4_takeBackInto_11 rfl (lv_at hl 0 rfl) ?_
  refine lv_aload_n hx hb dX4_takeBackInto_12 rfl (lv_at hl 0 rfl) ?_
  refine gf_15_0 hx hb htg hown hK hW q229 dX4_takeBackInto_13 ?_
  obtain ⟨r3, h2, hX⟩ := bd_go hX
  refine k_X4_cellAt hx hb hml hown htg hK hW hS h2 q231 hl.1 (Nat.le_of_ble_eq_true rfl) (Nat.le_of_ble_eq_true rfl) (Nat.le_of_ble_eq_true rfl) ⟨Nat.zero_le _, Nat.zero_le _⟩ dX4_takeBackInto_16 (fun H locs hW hS => ?_)
  obtain ⟨x6, h4, hX⟩ := bd_go hX
  refine k_X1_copyFrom hx hb hml hown htg hK hW hS h4 q235 hl.1 (Nat.le_of_ble_eq_true rfl) (Nat.le_of_ble_eq_true rfl) (Nat.le_of_ble_eq_true rfl) ⟨Nat.zero_le _, Nat.zero_le _⟩ dX4_takeBackInto_19 (fun H locs hW hS => ?_)
  refine lv_aload_n hx hb dX4_takeBackInto_22 rfl (lv_at hl 0 rfl) ?_
  refine gf_15_0 hx hb htg hown hK hW q229 dX4_takeBackInto_23 ?_
  have hX := Option.some.inj hX
  subst hX
  exact rt_i hx hb hr hlocks hW hS dX4_takeBackInto_26
set_option maxHeartbeats 4000000 in
theorem k_X4_takeBackInto {p : Program} {l : Launch} {e : Env} {R : Room} {s : State} {m : MethodId} {args : Array Value} {below : List Frame} {meth : Method} {c : Code} {H : Heap} {locs : List Loc} {cells slots : Nat} {Q : State → Prop} {cc : ByteArray} {pc nL idx : Nat} {own : String} {ls : Array Slot} {rest : List Value} {G : Geo} {x y : Mem} {H0 : Heap} {p0 : Fin 10} {v : Int32} {z : Mem} (hx : p.tables.exec = Jvm.exec) (hb : c.code = cc) (hml : c.maxLocals = nL) (hown : s.vm.findClass own = some m.cls) (htg : ∀ w ∈ wsG, w.before args s = true) (hK : Kt G s) (hW : Wh G x y H) (hS : va_S (gF G) H0 H locs) (h : m_X4_takeBackInto p0 x = some (v, z)) (hlk : Cond.methodLink own idx yX4_takeBackInto ∈ wsG) (hn : ls.size = nL) (hr : (rest.map fun v => v.category).sum ≤ 8) (hR1 : 3 + 1 ≤ R.frames) (hR2 : 8 + (2 + 11) + 65 ≤ R.locals) (hf : cells ≤ R.cells ∧ slots ≤ R.slots) (hdg : decode cc pc = .ok (.invokevirtual idx, 3)) (kk : ∀ (H1 : Heap) (locs1 : List Loc), Wh G z y H1 → va_S (gF G) H0 H1 locs1 → W p l e R s m args below meth c H1 locs1 cells slots Q (F0 m (pc + 3) ls (.int v :: rest))) : W p l e R s m args below meth c H locs cells slots Q (F0 m pc ls (.ref (gA G 2 ↑p0 0) :: .ref (gA G 15 0 0) :: rest)) := by
  refine va_calli (va_runV (As := [.ref (gA G 2 ↑p0 0)]) (rest := rest) ⟨hx, hb, hml, hown, htg⟩ (c_X4_takeBackInto l G x y p0 (v, z) h) (cwV 1 htg (gd_V hlk q1224 q1225 q23 q1226) rfl rfl rfl (by decide +kernel) ⟨hR1, hR2⟩) ⟨fun a U g mk q => ⟨q.1, q.2.1.calling, q.2.2⟩, rc_15 hK hW, fun U hU hW9 => ⟨rfl, hK.warm hW9, by rw [hU]; exact hW⟩⟩ rfl rfl hn rfl (lv_room hr) hdg hf) hS (fun _ _ h9 => h9) (fun _ h9 => h9) ?_
  intro r9 u t H1 locs1 ht hvm hw hB hz1 hk1 hS1
  replace hB : Wh G z y t.heap := hB
  rw [ht] at hB
  replace hw : r9 = v := hw
  subst hw
  exact kk H1 locs1 hB hS1
/-! METHOD X5_about -/
def m_X5_about (p0 : Fin 10 × Fin 31) (p1 : Int32) (x : Mem) : Option Int32 :=
  if p1 = (0 : Int32) then (some (x 12 ↑p0.1 ↑p0.2 0)) else if p1 = (1 : Int32) then (some (x 12 ↑p0.1 ↑p0.2 1)) else if p1 = (2 : Int32) then (some (x 12 ↑p0.1 ↑p0.2 3)) else if p1 = (3 : Int32) then (some (x 12 ↑p0.1 ↑p0.2 4)) else if p1 = (4 : Int32) then (some (x 12 ↑p0.1 ↑p0.2 5)) else if p1 = (5 : Int32) then (some (x 12 ↑p0.1 ↑p0.2 6)) else if p1 = (6 : Int32) then (some (x 12 ↑p0.1 ↑p0.2 7)) else if p1 = (7 : Int32) then (some (x 12 ↑p0.1 ↑p0.2 8)) else (some (x 12 ↑p0.1 ↑p0.2 9))
abbrev WS_X5_about : List Cond := .code yX5_about cX5_about 2 (some .int) :: wsG
abbrev RM_X5_about : Room := { frames := 0, cells := 0, slots := 0, locals := 0 }
set_option maxHeartbeats 4000000 in
set_option maxRecDepth 100000 in
theorem c_X5_about (l : Launch) (G : Geo) (x y : Mem) (p0 : Fin 10 × Fin 31) (p1 : Int32) (r : Int32) (h : m_X5_about p0 p1 x = some r) : Met l yX5_about WS_X5_about RM_X5_about (Pw G x y [.ref (gA G 12 ↑p0.1 ↑p0.2), .int p1]) (Qi G x y r) 0 0 (gF G) := by
  refine Met.ofW (cc := cX5_about) (maxL := 2) (ret := (some .int)) (by decide) rfl ?_
  intro p e s m args below meth c s₁ B hml hv
  obtain ⟨rfl, hK, hW⟩ := hv
  have hx := B.exec
  have hb := B.bytes
  have hr := B.returns
  have hts := atoms_spec (ws := WS_X5_about) B.pre
  have htg : ∀ w ∈ wsG, w.before _ s = true := fun w h => hts w (List.mem_cons_of_mem _ h)
  have hown : s.vm.findClass RX5 = some m.cls := findClass_of_methodNamed B.named
  have hlocks := B.notSynchronized
  have hS : va_S (gF G) s.heap s.heap [] := va_S.rf
  have hl := lv_entry ([.ref (gA G 12 ↑p0.1 ↑p0.2), .int p1]) (n := 2) (Nat.le_of_ble_eq_true rfl)
  rw [lg_entry_eq]
  generalize (lg_sl ([.ref (gA G 12 ↑p0.1 ↑p0.2), .int p1]) ++ List.replicate (2 - (lg_sl ([.ref (gA G 12 ↑p0.1 ↑p0.2), .int p1])).length) Slot.unset).toArray = ls at hl ⊢
  have hl : lv_has ls 2 [(0, .ref (gA G 12 ↑p0.1 ↑p0.2)), (1, .int p1)] := hl
  have hX := h
  unfold m_X5_about at hX
  refine lv_iload_n hx hb dX5_about_0 rfl (lv_at hl 1 rfl) ?_
  by_cases c1 : p1 = (0 : Int32)
  · have hX := it_t hX c1
    refine lv_tsIn (v := (0 : Int32)) (tgt := 48) hx hb dX5_about_1 c1 rfl (by decide) (by decide) rfl (by decide) ?_
    refine lv_aload_n hx hb dX5_about_48 rfl (lv_at hl 0 rfl) ?_
    refine gf_12_0 hx hb htg hown hK hW p0 q292 dX5_about_49 ?_
    have hX := Option.some.inj hX
    subst hX
    exact rt_i hx hb hr hlocks hW hS dX5_about_52
  have hX := it_f hX c1
  by_cases c2 : p1 = (1 : Int32)
  · have hX := it_t hX c2
    refine lv_tsIn (v := (1 : Int32)) (tgt := 53) hx hb dX5_about_1 c2 rfl (by decide) (by decide) rfl (by decide) ?_
    refine lv_aload_n hx hb dX5_about_53 rfl (lv_at hl 0 rfl) ?_
    refine gf_12_1 hx hb htg hown hK hW p0 q293 dX5_about_54 ?_
    have hX := Option.some.inj hX
    subst hX
    exact rt_i hx hb hr hlocks hW hS dX5_about_57
  have hX := it_f hX c2
  by_cases c3 : p1 = (2 : Int32)
  · have hX := it_t hX c3
    refine lv_tsIn (v := (2 : Int32)) (tgt := 58) hx hb dX5_about_1 c3 rfl (by decide) (by decide) rfl (by decide) ?_
    refine lv_aload_n hx hb dX5_about_58 rfl (lv_at hl 0 rfl) ?_
    refine gf_12_3 hx hb htg hown hK hW p0 q295 dX5_about_59 ?_
    have hX := Option.some.inj hX
    subst hX
    exact rt_i hx hb hr hlocks hW hS dX5_about_62
  have hX := it_f hX c3
  by_cases c4 : p1 = (3 : Int32)
  · have hX := it_t hX c4
    refine lv_tsIn (v := (3 : Int32)) (tgt := 63) hx hb dX5_about_1 c4 rfl (by decide) (by decide) rfl (by decide) ?_
    refine lv_aload_n hx hb dX5_about_63 rfl (lv_at hl 0 rfl) ?_
    refine gf_12_4 hx hb htg hown hK hW p0 q296 dX5_about_64 ?_
    have hX := Option.some.inj hX
    subst hX
    exact rt_i hx hb hr hlocks hW hS dX5_about_67
  have hX := it_f hX c4
  by_cases c5 : p1 = (4 : Int32)
  · have hX := it_t hX c5
    refine lv_tsIn (v := (4 : Int32)) (tgt := 68) hx hb dX5_about_1 c5 rfl (by decide) (by decide) rfl (by decide) ?_
    refine lv_aload_n hx hb dX5_about_68 rfl (lv_at hl 0 rfl) ?_
    refine gf_12_5 hx hb htg hown hK hW p0 q91 dX5_about_69 ?_
    have hX := Option.some.inj hX
    subst hX
    exact rt_i hx hb hr hlocks hW hS dX5_about_72
  have hX := it_f hX c5
  by_cases c6 : p1 = (5 : Int32)
  · have hX := it_t hX c6
    refine lv_tsIn (v := (5 : Int32)) (tgt := 73) hx hb dX5_about_1 c6 rfl (by decide) (by decide) rfl (by decide) ?_
    refine lv_aload_n hx hb dX5_about_73 rfl (lv_at hl 0 rfl) ?_
    refine gf_12_6 hx hb htg hown hK hW p0 q92 dX5_about_74 ?_
    have hX := Option.some.inj hX
    subst hX
    exact rt_i hx hb hr hlocks hW hS dX5_about_77
  have hX := it_f hX c6
  by_cases c7 : p1 = (6 : Int32)
  · have hX := it_t hX c7
    refine lv_tsIn (v := (6 : Int32)) (tgt := 78) hx hb dX5_about_1 c7 rfl (by decide) (by decide) rfl (by decide) ?_
    refine lv_aload_n hx hb dX5_about_78 rfl (lv_at hl 0 rfl) ?_
    refine gf_12_7 hx hb htg hown hK hW p0 q297 dX5_about_79 ?_
    have hX := Option.some.inj hX
    subst hX
    exact rt_i hx hb hr hlocks hW hS dX5_about_82
  have hX := it_f hX c7
  by_cases c8 : p1 = (7 : Int32)
  · have hX := it_t hX c8
    refine lv_tsIn (v := (7 : Int32)) (tgt := 83) hx hb dX5_about_1 c8 rfl (by decide) (by decide) rfl (by decide) ?_
    refine lv_aload_n hx hb dX5_about_83 rfl (lv_at hl 0 rfl) ?_
    refine gf_12_8 hx hb htg hown hK hW p0 q93 dX5_about_84 ?_
    have hX := Option.some.inj hX
    subst hX
    exact rt_i hx hb hr hlocks hW hS dX5_about_87
  have hX := it_f hX c8
  refine lv_tsOut (n := 7) (tgt := 88) hx hb dX5_about_1 (by decide) (fun j hj => match j, hj with | 0, _ => c1 | 1, _ => c2 | 2, _ => c3 | 3, _ => c4 | 4, _ => c5 | 5, _ => c6 | 6, _ => c7 | 7, _ => c8 | j + 8, hj => absurd hj (by omega)) (by decide) ?_
  refine lv_aload_n hx hb dX5_about_88 rfl (lv_at hl 0 rfl) ?_
  refine gf_12_9 hx hb htg hown hK hW p0 q94 dX5_about_89 ?_
  have hX := Option.some.inj hX
  subst hX
  exact rt_i hx hb hr hlocks hW hS dX5_about_92
set_option maxHeartbeats 4000000 in
theorem k_X5_about {p : Program} {l : Launch} {e : Env} {R : Room} {s : State} {m : MethodId} {args : Array Value} {below : List Frame} {meth : Method} {c : Code} {H : Heap} {locs : List Loc} {cells slots : Nat} {Q : State → Prop} {cc : ByteArray} {pc nL idx : Nat} {own : String} {ls : Array Slot} {rest : List Value} {G : Geo} {x y : Mem} {H0 : Heap} {p0 : Fin 10 × Fin 31} {p1 : Int32} {v : Int32} (hx : p.tables.exec = Jvm.exec) (hb : c.code = cc) (hml : c.maxLocals = nL) (hown : s.vm.findClass own = some m.cls) (htg : ∀ w ∈ wsG, w.before args s = true) (hK : Kt G s) (hW : Wh G x y H) (hS : va_S (gF G) H0 H locs) (h : m_X5_about p0 p1 x = some v) (hlk : Cond.methodLink own idx yX5_about ∈ wsG) (hn : ls.size = nL) (hr : (rest.map fun v => v.category).sum ≤ 8) (hR1 : 0 + 1 ≤ R.frames) (hR2 : 8 + (2 + 11) + 0 ≤ R.locals) (hf : cells ≤ R.cells ∧ slots ≤ R.slots) (hdg : decode cc pc = .ok (.invokevirtual idx, 3)) (kk : ∀ (H1 : Heap) (locs1 : List Loc), Wh G x y H1 → va_S (gF G) H0 H1 locs1 → W p l e R s m args below meth c H1 locs1 cells slots Q (F0 m (pc + 3) ls (.int v :: rest))) : W p l e R s m args below meth c H locs cells slots Q (F0 m pc ls (.int p1 :: .ref (gA G 12 ↑p0.1 ↑p0.2) :: rest)) := by
  refine va_calli (va_runV (As := [.int p1]) (rest := rest) ⟨hx, hb, hml, hown, htg⟩ (c_X5_about l G x y p0 p1 v h) (cwV 1 htg (gd_V hlk q621 q622 q55 q623) rfl rfl rfl (by decide +kernel) ⟨hR1, hR2⟩) ⟨fun a U g mk q => ⟨q.1, q.2.1.calling, q.2.2⟩, rc_12 hK hW p0, fun U hU hW9 => ⟨rfl, hK.warm hW9, by rw [hU]; exact hW⟩⟩ rfl rfl hn rfl (lv_room hr) hdg hf) hS (fun _ _ h9 => h9) (fun _ h9 => h9) ?_
  intro r9 u t H1 locs1 ht hvm hw hB hz1 hk1 hS1
  replace hB : Wh G x y t.heap := hB
  rw [ht] at hB
  replace hw : r9 = v := hw
  subst hw
  exact kk H1 locs1 hB hS1
/-! METHOD X5_zonesBehind -/
def m_X5_zonesBehind_b15 (p0 : Fin 10 × Fin 31) (p1 : Int32) (k15 : Int32 → Int32 → Int32 → Mem → Option Int32) (x2 : Int32) (x3 : Int32) (x4 : Int32) (x : Mem) : Option Int32 :=
  if x4 ≤ p1 then (some x3) else (if x4 ≤ 0 then (some x3) else (lt_ (x3 ||| (shl32 (1 : Int32) ((rem32 x2 (10 : Int32)) - (1 : Int32)))) fun x3_6 => lt_ (x2 / (10 : Int32)) fun x2_7 => lt_ (x4 + (-1 : Int32)) fun x4_8 => k15 x2_7 x3_6 x4_8 x))
def m_X5_zonesBehind_l15 (p0 : Fin 10 × Fin 31) (p1 : Int32) : Nat → Int32 → Int32 → Int32 → Mem → Option Int32
  | 0, _, _, _, _ => none
  | n + 1, x2, x3, x4, x => m_X5_zonesBehind_b15 p0 p1 (m_X5_zonesBehind_l15 p0 p1 n) x2 x3 x4 x
def m_X5_zonesBehind (p0 : Fin 10 × Fin 31) (p1 : Int32) (x : Mem) : Option Int32 :=
  lt_ (x 12 ↑p0.1 ↑p0.2 1) fun x2_1 => lt_ (0 : Int32) fun x3_2 => lt_ ((x 12 ↑p0.1 ↑p0.2 2) - (1 : Int32)) fun x4_3 => m_X5_zonesBehind_l15 p0 p1 FU x2_1 x3_2 x4_3 x
abbrev WS_X5_zonesBehind : List Cond := .code yX5_zonesBehind cX5_zonesBehind 5 (some .int) :: wsG
abbrev RM_X5_zonesBehind : Room := { frames := 0, cells := 0, slots := 0, locals := 0 }
set_option maxHeartbeats 4000000 in
set_option maxRecDepth 100000 in
theorem c_X5_zonesBehind (l : Launch) (G : Geo) (x y : Mem) (p0 : Fin 10 × Fin 31) (p1 : Int32) (r : Int32) (h : m_X5_zonesBehind p0 p1 x = some r) : Met l yX5_zonesBehind WS_X5_zonesBehind RM_X5_zonesBehind (Pw G x y [.ref (gA G 12 ↑p0.1 ↑p0.2), .int p1]) (Qi G x y r) 0 0 (gF G) := by
  refine Met.ofW (cc := cX5_zonesBehind) (maxL := 5) (ret := (some .int)) (by decide) rfl ?_
  intro p e s m args below meth c s₁ B hml hv
  obtain ⟨rfl, hK, hW⟩ := hv
  have hx := B.exec
  have hb := B.bytes
  have hr := B.returns
  have hts := atoms_spec (ws := WS_X5_zonesBehind) B.pre
  have htg : ∀ w ∈ wsG, w.before _ s = true := fun w h => hts w (List.mem_cons_of_mem _ h)
  have hown : s.vm.findClass RX5 = some m.cls := findClass_of_methodNamed B.named
  have hlocks := B.notSynchronized
  have hS : va_S (gF G) s.heap s.heap [] := va_S.rf
  have hl := lv_entry ([.ref (gA G 12 ↑p0.1 ↑p0.2), .int p1]) (n := 5) (Nat.le_of_ble_eq_true rfl)
  rw [lg_entry_eq]
  generalize (lg_sl ([.ref (gA G 12 ↑p0.1 ↑p0.2), .int p1]) ++ List.replicate (5 - (lg_sl ([.ref (gA G 12 ↑p0.1 ↑p0.2), .int p1])).length) Slot.unset).toArray = ls at hl ⊢
  have hl : lv_has ls 5 [(0, .ref (gA G 12 ↑p0.1 ↑p0.2)), (1, .int p1)] := hl
  have hX := h
  unfold m_X5_zonesBehind at hX
  have B_15 : ∀ (k15 : Int32 → Int32 → Int32 → Mem → Option Int32) (hk15 : ∀ (x2 : Int32) (x3 : Int32) (x4 : Int32) (x : Mem) (H : Heap) (locs : List Loc) (ls : Array Slot), Wh G x y H → va_S (gF G) s.heap H locs → lv_has ls 5 [(1, .int p1), (2, .int x2), (3, .int x3), (4, .int x4)] → k15 x2 x3 x4 x = some r → W p l e (headSpec WS_X5_zonesBehind RM_X5_zonesBehind).room s m ([.ref (gA G 12 ↑p0.1 ↑p0.2), .int p1] : List Value).toArray below meth c H locs 0 0 (MQ below (Qi G x y r) ([.ref (gA G 12 ↑p0.1 ↑p0.2), .int p1] : List Value).toArray s 0 0 (gF G)) (F0 m 15 ls [])), ∀ (x2 : Int32) (x3 : Int32) (x4 : Int32) (x : Mem) (H : Heap) (locs : List Loc) (ls : Array Slot), Wh G x y H → va_S (gF G) s.heap H locs → lv_has ls 5 [(1, .int p1), (2, .int x2), (3, .int x3), (4, .int x4)] → m_X5_zonesBehind_b15 p0 p1 k15 x2 x3 x4 x = some r → W p l e (headSpec WS_X5_zonesBehind RM_X5_zonesBehind).room s m ([.ref (gA G 12 ↑p0.1 ↑p0.2), .int p1] : List Value).toArray below meth c H locs 0 0 (MQ below (Qi G x y r) ([.ref (gA G 12 ↑p0.1 ↑p0.2), .int p1] : List Value).toArray s 0 0 (gF G)) (F0 m 15 ls []) := by
    intro k15 hk15 x2 x3 x4 x H locs ls hW hS hl hX
    unfold m_X5_zonesBehind_b15 at hX
    refine lv_iload hx hb dX5_zonesBehind_15 (lv_at hl 3 rfl) ?_
    refine lv_iload_n hx hb dX5_zonesBehind_17 rfl (lv_at hl 0 rfl) ?_
    refine lv_icmp_le (tgt := 48) hx hb dX5_zonesBehind_18 (by decide) (fun c4 => ?_) (fun c4 => ?_)
    · have hX := it_t hX c4
      refine lv_iload_n hx hb dX5_zonesBehind_48 rfl (lv_at hl 2 rfl) ?_
      have hX := Option.some.inj hX
      subst hX
      exact rt_i hx hb hr hlocks hW hS dX5_zonesBehind_49
    · have hX := it_f hX c4
      refine lv_iload hx hb dX5_zonesBehind_21 (lv_at hl 3 rfl) ?_
      refine lv_if_le (tgt := 48) hx hb dX5_zonesBehind_23 (by decide) (fun c5 => ?_) (fun c5 => ?_)
      · have hX := it_t hX c5
        refine lv_iload_n hx hb dX5_zonesBehind_48 rfl (lv_at hl 2 rfl) ?_
        have hX := Option.some.inj hX
        subst hX
        exact rt_i hx hb hr hlocks hW hS dX5_zonesBehind_49
      · have hX := it_f hX c5
        refine lv_iload_n hx hb dX5_zonesBehind_26 rfl (lv_at hl 2 rfl) ?_
        refine lv_iconst (v := (1 : Int32)) hx hb dX5_zonesBehind_27 (by decide) ?_
        refine lv_iload_n hx hb dX5_zonesBehind_28 rfl (lv_at hl 1 rfl) ?_
        refine lv_bipush (v := (10 : Int32)) hx hb dX5_zonesBehind_29 (by decide) ?_
        refine lv_irem_ hx hb dX5_zonesBehind_31 (by decide) ?_
        refine lv_iconst (v := (1 : Int32)) hx hb dX5_zonesBehind_32 (by decide) ?_
        refine lv_isub hx hb dX5_zonesBehind_33 ?_
        refine lv_ishl_ hx hb dX5_zonesBehind_34 ?_
        refine lv_ior hx hb dX5_zonesBehind_35 ?_
        refine lv_topi (fun x3_6 e9 => ?_)
        have hX := lt_go hX e9
        refine lv_istore_n (lv' := [(3, .int x3_6), (1, .int p1), (2, .int x2), (4, .int x4)]) hx hb dX5_zonesBehind_36 rfl hl (by decide) rfl (fun ls hl => ?_)
        refine lv_iload_n hx hb dX5_zonesBehind_37 rfl (lv_at hl 2 rfl) ?_
        refine lv_bipush (v := (10 : Int32)) hx hb dX5_zonesBehind_38 (by decide) ?_
        refine lv_idiv hx hb dX5_zonesBehind_40 (by decide) ?_
        refine lv_topi (fun x2_7 e9 => ?_)
        have hX := lt_go hX e9
        refine lv_istore_n (lv' := [(2, .int x2_7), (3, .int x3_6), (1, .int p1), (4, .int x4)]) hx hb dX5_zonesBehind_41 rfl hl (by decide) rfl (fun ls hl => ?_)
        obtain ⟨x4_8, e9⟩ : ∃ w : Int32, w = (x4 + (-1 : Int32)) := ⟨_, rfl⟩
        have hX := lt_go hX e9
        refine lv_iinc (v := x4_8) (lv' := [(4, .int x4_8), (2, .int x2_7), (3, .int x3_6), (1, .int p1)]) hx hb dX5_zonesBehind_42 hl (k := 3) rfl (by rw [e9]; rfl) (by decide) rfl (fun ls hl => ?_)
        refine lv_goto (tgt := 15) hx hb dX5_zonesBehind_45 (by decide) ?_
        exact hk15 _ _ _ _ _ _ _ hW hS (lv_sub hl [3, 1, 2, 0] rfl) hX
  have L_15 : ∀ (n : Nat), ∀ (x2 : Int32) (x3 : Int32) (x4 : Int32) (x : Mem) (H : Heap) (locs : List Loc) (ls : Array Slot), Wh G x y H → va_S (gF G) s.heap H locs → lv_has ls 5 [(1, .int p1), (2, .int x2), (3, .int x3), (4, .int x4)] → m_X5_zonesBehind_l15 p0 p1 n x2 x3 x4 x = some r → W p l e (headSpec WS_X5_zonesBehind RM_X5_zonesBehind).room s m ([.ref (gA G 12 ↑p0.1 ↑p0.2), .int p1] : List Value).toArray below meth c H locs 0 0 (MQ below (Qi G x y r) ([.ref (gA G 12 ↑p0.1 ↑p0.2), .int p1] : List Value).toArray s 0 0 (gF G)) (F0 m 15 ls []) := by
    intro n
    induction n with
    | zero => intro x2 x3 x4 x H locs ls hW hS hl hX; exact no_go hX
    | succ n ih => intro x2 x3 x4 x H locs ls hW hS hl hX; exact B_15 _ ih _ _ _ _ _ _ _ hW hS hl hX
  refine lv_aload_n hx hb dX5_zonesBehind_0 rfl (lv_at hl 0 rfl) ?_
  refine gf_12_1 hx hb htg hown hK hW p0 q293 dX5_zonesBehind_1 ?_
  refine lv_topi (fun x2_1 e9 => ?_)
  have hX := lt_go hX e9
  refine lv_istore_n (lv' := [(2, .int x2_1), (0, .ref (gA G 12 ↑p0.1 ↑p0.2)), (1, .int p1)]) hx hb dX5_zonesBehind_4 rfl hl (by decide) rfl (fun ls hl => ?_)
  refine lv_iconst (v := (0 : Int32)) hx hb dX5_zonesBehind_5 (by decide) ?_
  refine lv_topi (fun x3_2 e9 => ?_)
  have hX := lt_go hX e9
  refine lv_istore_n (lv' := [(3, .int x3_2), (2, .int x2_1), (0, .ref (gA G 12 ↑p0.1 ↑p0.2)), (1, .int p1)]) hx hb dX5_zonesBehind_6 rfl hl (by decide) rfl (fun ls hl => ?_)
  refine lv_aload_n hx hb dX5_zonesBehind_7 rfl (lv_at hl 2 rfl) ?_
  refine gf_12_2 hx hb htg hown hK hW p0 q294 dX5_zonesBehind_8 ?_
  refine lv_iconst (v := (1 : Int32)) hx hb dX5_zonesBehind_11 (by decide) ?_
  refine lv_isub hx hb dX5_zonesBehind_12 ?_
  refine lv_topi (fun x4_3 e9 => ?_)
  have hX := lt_go hX e9
  refine lv_istore (lv' := [(4, .int x4_3), (3, .int x3_2), (2, .int x2_1), (0, .ref (gA G 12 ↑p0.1 ↑p0.2)), (1, .int p1)]) hx hb dX5_zonesBehind_13 hl (by decide) rfl (fun ls hl => ?_)
  exact L_15 FU _ _ _ _ _ _ _ hW hS (lv_sub hl [4, 2, 1, 0] rfl) hX
set_option maxHeartbeats 4000000 in
theorem k_X5_zonesBehind {p : Program} {l : Launch} {e : Env} {R : Room} {s : State} {m : MethodId} {args : Array Value} {below : List Frame} {meth : Method} {c : Code} {H : Heap} {locs : List Loc} {cells slots : Nat} {Q : State → Prop} {cc : ByteArray} {pc nL idx : Nat} {own : String} {ls : Array Slot} {rest : List Value} {G : Geo} {x y : Mem} {H0 : Heap} {p0 : Fin 10 × Fin 31} {p1 : Int32} {v : Int32} (hx : p.tables.exec = Jvm.exec) (hb : c.code = cc) (hml : c.maxLocals = nL) (hown : s.vm.findClass own = some m.cls) (htg : ∀ w ∈ wsG, w.before args s = true) (hK : Kt G s) (hW : Wh G x y H) (hS : va_S (gF G) H0 H locs) (h : m_X5_zonesBehind p0 p1 x = some v) (hlk : Cond.methodLink own idx yX5_zonesBehind ∈ wsG) (hn : ls.size = nL) (hr : (rest.map fun v => v.category).sum ≤ 8) (hR1 : 0 + 1 ≤ R.frames) (hR2 : 8 + (5 + 11) + 0 ≤ R.locals) (hf : cells ≤ R.cells ∧ slots ≤ R.slots) (hdg : decode cc pc = .ok (.invokevirtual idx, 3)) (kk : ∀ (H1 : Heap) (locs1 : List Loc), Wh G x y H1 → va_S (gF G) H0 H1 locs1 → W p l e R s m args below meth c H1 locs1 cells slots Q (F0 m (pc + 3) ls (.int v :: rest))) : W p l e R s m args below meth c H locs cells slots Q (F0 m pc ls (.int p1 :: .ref (gA G 12 ↑p0.1 ↑p0.2) :: rest)) := by
  refine va_calli (va_runV (As := [.int p1]) (rest := rest) ⟨hx, hb, hml, hown, htg⟩ (c_X5_zonesBehind l G x y p0 p1 v h) (cwV 1 htg (gd_V hlk q773 q774 q55 q775) rfl rfl rfl (by decide +kernel) ⟨hR1, hR2⟩) ⟨fun a U g mk q => ⟨q.1, q.2.1.calling, q.2.2⟩, rc_12 hK hW p0, fun U hU hW9 => ⟨rfl, hK.warm hW9, by rw [hU]; exact hW⟩⟩ rfl rfl hn rfl (lv_room hr) hdg hf) hS (fun _ _ h9 => h9) (fun _ h9 => h9) ?_
  intro r9 u t H1 locs1 ht hvm hw hB hz1 hk1 hS1
  replace hB : Wh G x y t.heap := hB
  rw [ht] at hB
  replace hw : r9 = v := hw
  subst hw
  exact kk H1 locs1 hB hS1
/-! METHOD X9_hasPartToGive -/
def m_X9_hasPartToGive (p0 : Fin 10 × Fin 4) (x : Mem) : Option Int32 :=
  if (x 9 ↑p0.1 ↑p0.2 1) ≤ (x 9 ↑p0.1 ↑p0.2 3) then (some (0 : Int32)) else (some (1 : Int32))
abbrev WS_X9_hasPartToGive : List Cond := .code yX9_hasPartToGive cX9_hasPartToGive 1 (some .boolean) :: wsG
abbrev RM_X9_hasPartToGive : Room := { frames := 0, cells := 0, slots := 0, locals := 0 }
set_option maxHeartbeats 4000000 in
set_option maxRecDepth 100000 in
theorem c_X9_hasPartToGive (l : Launch) (G : Geo) (x y : Mem) (p0 : Fin 10 × Fin 4) (r : Int32) (h : m_X9_hasPartToGive p0 x = some r) : Met l yX9_hasPartToGive WS_X9_hasPartToGive RM_X9_hasPartToGive (Pw G x y [.ref (gA G 9 ↑p0.1 ↑p0.2)]) (Qi G x y r) 0 0 (gF G) := by
  refine Met.ofW (cc := cX9_hasPartToGive) (maxL := 1) (ret := (some .boolean)) (by decide) rfl ?_
  intro p e s m args below meth c s₁ B hml hv
  obtain ⟨rfl, hK, hW⟩ := hv
  have hx := B.exec
  have hb := B.bytes
  have hr := B.returns
  have hts := atoms_spec (ws := WS_X9_hasPartToGive) B.pre
  have htg : ∀ w ∈ wsG, w.before _ s = true := fun w h => hts w (List.mem_cons_of_mem _ h)
  have hown : s.vm.findClass RX9 = some m.cls := findClass_of_methodNamed B.named
  have hlocks := B.notSynchronized
  have hS : va_S (gF G) s.heap s.heap [] := va_S.rf
  have hl := lv_entry ([.ref (gA G 9 ↑p0.1 ↑p0.2)]) (n := 1) (Nat.le_of_ble_eq_true rfl)
  rw [lg_entry_eq]
  generalize (lg_sl ([.ref (gA G 9 ↑p0.1 ↑p0.2)]) ++ List.replicate (1 - (lg_sl ([.ref (gA G 9 ↑p0.1 ↑p0.2)])).length) Slot.unset).toArray = ls at hl ⊢
  have hl : lv_has ls 1 [(0, .ref (gA G 9 ↑p0.1 ↑p0.2))] := hl
  have hX := h
  unfold m_X9_hasPartToGive at hX
  refine lv_aload_n hx hb dX9_hasPartToGive_0 rfl (lv_at hl 0 rfl) ?_
  refine gf_9_1 hx hb htg hown hK hW p0 q279 dX9_hasPartToGive_1 ?_
  refine lv_aload_n hx hb dX9_hasPartToGive_4 rfl (lv_at hl 0 rfl) ?_
  refine gf_9_3 hx hb htg hown hK hW p0 q281 dX9_hasPartToGive_5 ?_
  refine lv_icmp_le (tgt := 15) hx hb dX9_hasPartToGive_8 (by decide) (fun c1 => ?_) (fun c1 => ?_)
  · have hX := it_t hX c1
    refine lv_iconst (v := (0 : Int32)) hx hb dX9_hasPartToGive_15 (by decide) ?_
    have hX := Option.some.inj hX
    subst hX
    exact rt_z hx hb hr hlocks hW hS nb0 dX9_hasPartToGive_16
  · have hX := it_f hX c1
    refine lv_iconst (v := (1 : Int32)) hx hb dX9_hasPartToGive_11 (by decide) ?_
    refine lv_goto (tgt := 16) hx hb dX9_hasPartToGive_12 (by decide) ?_
    have hX := Option.some.inj hX
    subst hX
    exact rt_z hx hb hr hlocks hW hS nb1 dX9_hasPartToGive_16
set_option maxHeartbeats 4000000 in
theorem k_X9_hasPartToGive {p : Program} {l : Launch} {e : Env} {R : Room} {s : State} {m : MethodId} {args : Array Value} {below : List Frame} {meth : Method} {c : Code} {H : Heap} {locs : List Loc} {cells slots : Nat} {Q : State → Prop} {cc : ByteArray} {pc nL idx : Nat} {own : String} {ls : Array Slot} {rest : List Value} {G : Geo} {x y : Mem} {H0 : Heap} {p0 : Fin 10 × Fin 4} {v : Int32} (hx : p.tables.exec = Jvm.exec) (hb : c.code = cc) (hml : c.maxLocals = nL) (hown : s.vm.findClass own = some m.cls) (htg : ∀ w ∈ wsG, w.before args s = true) (hK : Kt G s) (hW : Wh G x y H) (hS : va_S (gF G) H0 H locs) (h : m_X9_hasPartToGive p0 x = some v) (hlk : Cond.methodLink own idx yX9_hasPartToGive ∈ wsG) (hn : ls.size = nL) (hr : (rest.map fun v => v.category).sum ≤ 8) (hR1 : 0 + 1 ≤ R.frames) (hR2 : 8 + (1 + 11) + 0 ≤ R.locals) (hf : cells ≤ R.cells ∧ slots ≤ R.slots) (hdg : decode cc pc = .ok (.invokevirtual idx, 3)) (kk : ∀ (H1 : Heap) (locs1 : List Loc), Wh G x y H1 → va_S (gF G) H0 H1 locs1 → W p l e R s m args below meth c H1 locs1 cells slots Q (F0 m (pc + 3) ls (.int v :: rest))) : W p l e R s m args below meth c H locs cells slots Q (F0 m pc ls (.ref (gA G 9 ↑p0.1 ↑p0.2) :: rest)) := by
  refine va_calli (va_runV (As := []) (rest := rest) ⟨hx, hb, hml, hown, htg⟩ (c_X9_hasPartToGive l G x y p0 v h) (cwV 0 htg (gd_V hlk q754 q755 q51 q756) rfl rfl rfl (by decide +kernel) ⟨hR1, hR2⟩) ⟨fun a U g mk q => ⟨q.1, q.2.1.calling, q.2.2⟩, rc_9 hK hW p0, fun U hU hW9 => ⟨rfl, hK.warm hW9, by rw [hU]; exact hW⟩⟩ rfl rfl hn rfl (lv_room hr) hdg hf) hS (fun _ _ h9 => h9) (fun _ h9 => h9) ?_
  intro r9 u t H1 locs1 ht hvm hw hB hz1 hk1 hS1
  replace hB : Wh G x y t.heap := hB
  rw [ht] at hB
  replace hw : r9 = v := hw
  subst hw
  exact kk H1 locs1 hB hS1
/-! METHOD X9_hasRoom -/
def m_X9_hasRoom (p0 : Fin 10 × Fin 4) (x : Mem) : Option Int32 :=
  if (x 9 ↑p0.1 ↑p0.2 0) ≤ ((x 9 ↑p0.1 ↑p0.2 1) + (x 9 ↑p0.1 ↑p0.2 2)) then (some (0 : Int32)) else (some (1 : Int32))
abbrev WS_X9_hasRoom : List Cond := .code yX9_hasRoom cX9_hasRoom 1 (some .boolean) :: wsG
abbrev RM_X9_hasRoom : Room := { frames := 0, cells := 0, slots := 0, locals := 0 }
set_option maxHeartbeats 4000000 in
set_option maxRecDepth 100000 in
theorem c_X9_hasRoom (l : Launch) (G : Geo) (x y : Mem) (p0 : Fin 10 × Fin 4) (r : Int32) (h : m_X9_hasRoom p0 x = some r) : Met l yX9_hasRoom WS_X9_hasRoom RM_X9_hasRoom (Pw G x y [.ref (gA G 9 ↑p0.1 ↑p0.2)]) (Qi G x y r) 0 0 (gF G) := by
  refine Met.ofW (cc := cX9_hasRoom) (maxL := 1) (ret := (some .boolean)) (by decide) rfl ?_
  intro p e s m args below meth c s₁ B hml hv
  obtain ⟨rfl, hK, hW⟩ := hv
  have hx := B.exec
  have hb := B.bytes
  have hr := B.returns
  have hts := atoms_spec (ws := WS_X9_hasRoom) B.pre
  have htg : ∀ w ∈ wsG, w.before _ s = true := fun w h => hts w (List.mem_cons_of_mem _ h)
  have hown : s.vm.findClass RX9 = some m.cls := findClass_of_methodNamed B.named
  have hlocks := B.notSynchronized
  have hS : va_S (gF G) s.heap s.heap [] := va_S.rf
  have hl := lv_entry ([.ref (gA G 9 ↑p0.1 ↑p0.2)]) (n := 1) (Nat.le_of_ble_eq_true rfl)
  rw [lg_entry_eq]
  generalize (lg_sl ([.ref (gA G 9 ↑p0.1 ↑p0.2)]) ++ List.replicate (1 - (lg_sl ([.ref (gA G 9 ↑p0.1 ↑p0.2)])).length) Slot.unset).toArray = ls at hl ⊢
  have hl : lv_has ls 1 [(0, .ref (gA G 9 ↑p0.1 ↑p0.2))] := hl
  have hX := h
  unfold m_X9_hasRoom at hX
  refine lv_aload_n hx hb dX9_hasRoom_0 rfl (lv_at hl 0 rfl) ?_
  refine gf_9_1 hx hb htg hown hK hW p0 q279 dX9_hasRoom_1 ?_
  refine lv_aload_n hx hb dX9_hasRoom_4 rfl (lv_at hl 0 rfl) ?_
  refine gf_9_2 hx hb htg hown hK hW p0 q280 dX9_hasRoom_5 ?_
  refine lv_iadd hx hb dX9_hasRoom_8 ?_
  refine lv_aload_n hx hb dX9_hasRoom_9 rfl (lv_at hl 0 rfl) ?_
  refine gf_9_0 hx hb htg hown hK hW p0 q85 dX9_hasRoom_10 ?_
  refine lv_icmp_ge (tgt := 20) hx hb dX9_hasRoom_13 (by decide) (fun c1 => ?_) (fun c1 => ?_)
  · have hX := it_t hX c1
    refine lv_iconst (v := (0 : Int32)) hx hb dX9_hasRoom_20 (by decide) ?_
    have hX := Option.some.inj hX
    subst hX
    exact rt_z hx hb hr hlocks hW hS nb0 dX9_hasRoom_21
  · have hX := it_f hX c1
    refine lv_iconst (v := (1 : Int32)) hx hb dX9_hasRoom_16 (by decide) ?_
    refine lv_goto (tgt := 21) hx hb dX9_hasRoom_17 (by decide) ?_
    have hX := Option.some.inj hX
    subst hX
    exact rt_z hx hb hr hlocks hW hS nb1 dX9_hasRoom_21
set_option maxHeartbeats 4000000 in
theorem k_X9_hasRoom {p : Program} {l : Launch} {e : Env} {R : Room} {s : State} {m : MethodId} {args : Array Value} {below : List Frame} {meth : Method} {c : Code} {H : Heap} {locs : List Loc} {cells slots : Nat} {Q : State → Prop} {cc : ByteArray} {pc nL idx : Nat} {own : String} {ls : Array Slot} {rest : List Value} {G : Geo} {x y : Mem} {H0 : Heap} {p0 : Fin 10 × Fin 4} {v : Int32} (hx : p.tables.exec = Jvm.exec) (hb : c.code = cc) (hml : c.maxLocals = nL) (hown : s.vm.findClass own = some m.cls) (htg : ∀ w ∈ wsG, w.before args s = true) (hK : Kt G s) (hW : Wh G x y H) (hS : va_S (gF G) H0 H locs) (h : m_X9_hasRoom p0 x = some v) (hlk : Cond.methodLink own idx yX9_hasRoom ∈ wsG) (hn : ls.size = nL) (hr : (rest.map fun v => v.category).sum ≤ 8) (hR1 : 0 + 1 ≤ R.frames) (hR2 : 8 + (1 + 11) + 0 ≤ R.locals) (hf : cells ≤ R.cells ∧ slots ≤ R.slots) (hdg : decode cc pc = .ok (.invokevirtual idx, 3)) (kk : ∀ (H1 : Heap) (locs1 : List Loc), Wh G x y H1 → va_S (gF G) H0 H1 locs1 → W p l e R s m args below meth c H1 locs1 cells slots Q (F0 m (pc + 3) ls (.int v :: rest))) : W p l e R s m args below meth c H locs cells slots Q (F0 m pc ls (.ref (gA G 9 ↑p0.1 ↑p0.2) :: rest)) := by
  refine va_calli (va_runV (As := []) (rest := rest) ⟨hx, hb, hml, hown, htg⟩ (c_X9_hasRoom l G x y p0 v h) (cwV 0 htg (gd_V hlk q442 q443 q51 q444) rfl rfl rfl (by decide +kernel) ⟨hR1, hR2⟩) ⟨fun a U g mk q => ⟨q.1, q.2.1.calling, q.2.2⟩, rc_9 hK hW p0, fun U hU hW9 => ⟨rfl, hK.warm hW9, by rw [hU]; exact hW⟩⟩ rfl rfl hn rfl (lv_room hr) hdg hf) hS (fun _ _ h9 => h9) (fun _ h9 => h9) ?_
  intro r9 u t H1 locs1 ht hvm hw hB hz1 hk1 hS1
  replace hB : Wh G x y t.heap := hB
  rw [ht] at hB
  replace hw : r9 = v := hw
  subst hw
  exact kk H1 locs1 hB hS1
/-! METHOD X6_bufferReason -/
def m_X6_bufferReason_j32 (p0 : Fin 10) (p1 : Fin 10 × Fin 31) (x : Mem) : Option (Int32 × Mem) :=
  if (x 12 ↑p1.1 ↑p1.2 6) = (-1 : Int32) then (some ((0 : Int32), x)) else (bd_ (m_X1_storeAt p0 (x 12 ↑p1.1 ↑p1.2 6)) fun r10 => bd_ (m_X9_hasRoom r10 x) fun r12 => if r12 = 0 then (lt_ (up4 x 19 0 0 0 (x 12 ↑p1.1 ↑p1.2 6)) fun x14 => some ((2 : Int32), x14)) else (some ((0 : Int32), x)))
def m_X6_bufferReason (p0 : Fin 10) (p1 : Fin 10 × Fin 31) (x : Mem) : Option (Int32 × Mem) :=
  if (x 12 ↑p1.1 ↑p1.2 5) = (-1 : Int32) then (m_X6_bufferReason_j32 p0 p1 x) else (bd_ (m_X1_storeAt p0 (x 12 ↑p1.1 ↑p1.2 5)) fun r3 => bd_ (m_X9_hasPartToGive r3 x) fun r5 => if r5 = 0 then (lt_ (up4 x 19 0 0 0 (x 12 ↑p1.1 ↑p1.2 5)) fun x7 => some ((1 : Int32), x7)) else (m_X6_bufferReason_j32 p0 p1 x))
abbrev WS_X6_bufferReason : List Cond := .code yX6_bufferReason cX6_bufferReason 3 (some .int) :: wsG
abbrev RM_X6_bufferReason : Room := { frames := 1, cells := 0, slots := 0, locals := 21 }
set_option maxHeartbeats 4000000 in
set_option maxRecDepth 100000 in
theorem c_X6_bufferReason (l : Launch) (G : Geo) (x y : Mem) (p0 : Fin 10) (p1 : Fin 10 × Fin 31) (r : (Int32 × Mem)) (h : m_X6_bufferReason p0 p1 x = some r) : Met l yX6_bufferReason WS_X6_bufferReason RM_X6_bufferReason (Pw G x y [.ref (gA G 19 0 0), .ref (gA G 2 ↑p0 0), .ref (gA G 12 ↑p1.1 ↑p1.2)]) (Qi G r.2 y r.1) 0 0 (gF G) := by
  refine Met.ofW (cc := cX6_bufferReason) (maxL := 3) (ret := (some .int)) (by decide) rfl ?_
  intro p e s m args below meth c s₁ B hml hv
  obtain ⟨rfl, hK, hW⟩ := hv
  have hx := B.exec
  have hb := B.bytes
  have hr := B.returns
  have hts := atoms_spec (ws := WS_X6_bufferReason) B.pre
  have htg : ∀ w ∈ wsG, w.before _ s = true := fun w h => hts w (List.mem_cons_of_mem _ h)
  have hown : s.vm.findClass RX6 = some m.cls := findClass_of_methodNamed B.named
  have hlocks := B.notSynchronized
  have hS : va_S (gF G) s.heap s.heap [] := va_S.rf
  have hl := lv_entry ([.ref (gA G 19 0 0), .ref (gA G 2 ↑p0 0), .ref (gA G 12 ↑p1.1 ↑p1.2)]) (n := 3) (Nat.le_of_ble_eq_true rfl)
  rw [lg_entry_eq]
  generalize (lg_sl ([.ref (gA G 19 0 0), .ref (gA G 2 ↑p0 0), .ref (gA G 12 ↑p1.1 ↑p1.2)]) ++ List.replicate (3 - (lg_sl ([.ref (gA G 19 0 0), .ref (gA G 2 ↑p0 0), .ref (gA G 12 ↑p1.1 ↑p1.2)])).length) Slot.unset).toArray = ls at hl ⊢
  have hl : lv_has ls 3 [(0, .ref (gA G 19 0 0)), (1, .ref (gA G 2 ↑p0 0)), (2, .ref (gA G 12 ↑p1.1 ↑p1.2))] := hl
  have hX := h
  unfold m_X6_bufferReason at hX
  have J_32 : ∀ (x : Mem) (H : Heap) (locs : List Loc) (ls : Array Slot), Wh G x y H → va_S (gF G) s.heap H locs → lv_has ls 3 [(0, .ref (gA G 19 0 0)), (1, .ref (gA G 2 ↑p0 0)), (2, .ref (gA G 12 ↑p1.1 ↑p1.2))] → m_X6_bufferReason_j32 p0 p1 x = some r → W p l e (headSpec WS_X6_bufferReason RM_X6_bufferReason).room s m ([.ref (gA G 19 0 0), .ref (gA G 2 ↑p0 0), .ref (gA G 12 ↑p1.1 ↑p1.2)] : List Value).toArray below meth c H locs 0 0 (MQ below (Qi G r.2 y r.1) ([.ref (gA G 19 0 0), .ref (gA G 2 ↑p0 0), .ref (gA G 12 ↑p1.1 ↑p1.2)] : List Value).toArray s 0 0 (gF G)) (F0 m 32 ls []) := by
    intro x H locs ls hW hS hl hX
    unfold m_X6_bufferReason_j32 at hX
    refine lv_aload_n hx hb dX6_bufferReason_32 rfl (lv_at hl 2 rfl) ?_
    refine gf_12_6 hx hb htg hown hK hW p1 q751 dX6_bufferReason_33 ?_
    refine lv_iconst (v := (-1 : Int32)) hx hb dX6_bufferReason_36 (by decide) ?_
    refine lv_icmp_eq (tgt := 64) hx hb dX6_bufferReason_37 (by decide) (fun c8 => ?_) (fun c8 => ?_)
    · have hX := it_t hX c8
      refine lv_iconst (v := (0 : Int32)) hx hb dX6_bufferReason_64 (by decide) ?_
      have hX := Option.some.inj hX
      subst hX
      exact rt_i hx hb hr hlocks hW hS dX6_bufferReason_65
    · have hX := it_f hX c8
      refine lv_aload_n hx hb dX6_bufferReason_40 rfl (lv_at hl 1 rfl) ?_
      refine lv_aload_n hx hb dX6_bufferReason_41 rfl (lv_at hl 2 rfl) ?_
      refine gf_12_6 hx hb htg hown hK hW p1 q751 dX6_bufferReason_42 ?_
      obtain ⟨r10, h9, hX⟩ := bd_go hX
      refine k_X1_storeAt hx hb hml hown htg hK hW hS h9 q752 hl.1 (Nat.le_of_ble_eq_true rfl) (Nat.le_of_ble_eq_true rfl) (Nat.le_of_ble_eq_true rfl) ⟨Nat.zero_le _, Nat.zero_le _⟩ dX6_bufferReason_45 (fun H locs hW hS => ?_)
      obtain ⟨r12, h11, hX⟩ := bd_go hX
      refine k_X9_hasRoom hx hb hml hown htg hK hW hS h11 q757 hl.1 (Nat.le_of_ble_eq_true rfl) (Nat.le_of_ble_eq_true rfl) (Nat.le_of_ble_eq_true rfl) ⟨Nat.zero_le _, Nat.zero_le _⟩ dX6_bufferReason_48 (fun H locs hW hS => ?_)
      refine lv_if_ne (tgt := 64) hx hb dX6_bufferReason_51 (by decide) (fun c13 => ?_) (fun c13 => ?_)
      · have hX := it_f hX c13
        refine lv_iconst (v := (0 : Int32)) hx hb dX6_bufferReason_64 (by decide) ?_
        have hX := Option.some.inj hX
        subst hX
        exact rt_i hx hb hr hlocks hW hS dX6_bufferReason_65
      · have hX := it_t hX c13
        refine lv_aload_n hx hb dX6_bufferReason_54 rfl (lv_at hl 0 rfl) ?_
        refine lv_aload_n hx hb dX6_bufferReason_55 rfl (lv_at hl 2 rfl) ?_
        refine gf_12_6 hx hb htg hown hK hW p1 q751 dX6_bufferReason_56 ?_
        refine pf_19_0 hx hb htg hown hK hW hS q741 dX6_bufferReason_59 (fun H locs hW hS => ?_)
        obtain ⟨x14, e9⟩ : ∃ w : Mem, w = (up4 x 19 0 0 0 (x 12 ↑p1.1 ↑p1.2 6)) := ⟨_, rfl⟩
        rw [← e9] at hW
        have hX := lt_go hX e9
        refine lv_iconst (v := (2 : Int32)) hx hb dX6_bufferReason_62 (by decide) ?_
        have hX := Option.some.inj hX
        subst hX
        exact rt_i hx hb hr hlocks hW hS dX6_bufferReason_63
  refine lv_aload_n hx hb dX6_bufferReason_0 rfl (lv_at hl 2 rfl) ?_
  refine gf_12_5 hx hb htg hown hK hW p1 q750 dX6_bufferReason_1 ?_
  refine lv_iconst (v := (-1 : Int32)) hx hb dX6_bufferReason_4 (by decide) ?_
  refine lv_icmp_eq (tgt := 32) hx hb dX6_bufferReason_5 (by decide) (fun c1 => ?_) (fun c1 => ?_)
  · have hX := it_t hX c1
    exact J_32 _ _ _ _ hW hS (lv_sub hl [0, 1, 2] rfl) hX
  · have hX := it_f hX c1
    refine lv_aload_n hx hb dX6_bufferReason_8 rfl (lv_at hl 1 rfl) ?_
    refine lv_aload_n hx hb dX6_bufferReason_9 rfl (lv_at hl 2 rfl) ?_
    refine gf_12_5 hx hb htg hown hK hW p1 q750 dX6_bufferReason_10 ?_
    obtain ⟨r3, h2, hX⟩ := bd_go hX
    refine k_X1_storeAt hx hb hml hown htg hK hW hS h2 q752 hl.1 (Nat.le_of_ble_eq_true rfl) (Nat.le_of_ble_eq_true rfl) (Nat.le_of_ble_eq_true rfl) ⟨Nat.zero_le _, Nat.zero_le _⟩ dX6_bufferReason_13 (fun H locs hW hS => ?_)
    obtain ⟨r5, h4, hX⟩ := bd_go hX
    refine k_X9_hasPartToGive hx hb hml hown htg hK hW hS h4 q753 hl.1 (Nat.le_of_ble_eq_true rfl) (Nat.le_of_ble_eq_true rfl) (Nat.le_of_ble_eq_true rfl) ⟨Nat.zero_le _, Nat.zero_le _⟩ dX6_bufferReason_16 (fun H locs hW hS => ?_)
    refine lv_if_ne (tgt := 32) hx hb dX6_bufferReason_19 (by decide) (fun c6 => ?_) (fun c6 => ?_)
    · have hX := it_f hX c6
      exact J_32 _ _ _ _ hW hS (lv_sub hl [0, 1, 2] rfl) hX
    · have hX := it_t hX c6
      refine lv_aload_n hx hb dX6_bufferReason_22 rfl (lv_at hl 0 rfl) ?_
      refine lv_aload_n hx hb dX6_bufferReason_23 rfl (lv_at hl 2 rfl) ?_
      refine gf_12_5 hx hb htg hown hK hW p1 q750 dX6_bufferReason_24 ?_
      refine pf_19_0 hx hb htg hown hK hW hS q741 dX6_bufferReason_27 (fun H locs hW hS => ?_)
      obtain ⟨x7, e9⟩ : ∃ w : Mem, w = (up4 x 19 0 0 0 (x 12 ↑p1.1 ↑p1.2 5)) := ⟨_, rfl⟩
      rw [← e9] at hW
      have hX := lt_go hX e9
      refine lv_iconst (v := (1 : Int32)) hx hb dX6_bufferReason_30 (by decide) ?_
      have hX := Option.some.inj hX
      subst hX
      exact rt_i hx hb hr hlocks hW hS dX6_bufferReason_31
set_option maxHeartbeats 4000000 in
theorem k_X6_bufferReason {p : Program} {l : Launch} {e : Env} {R : Room} {s : State} {m : MethodId} {args : Array Value} {below : List Frame} {meth : Method} {c : Code} {H : Heap} {locs : List Loc} {cells slots : Nat} {Q : State → Prop} {cc : ByteArray} {pc nL idx : Nat} {own : String} {ls : Array Slot} {rest : List Value} {G : Geo} {x y : Mem} {H0 : Heap} {p0 : Fin 10} {p1 : Fin 10 × Fin 31} {v : Int32} {z : Mem} (hx : p.tables.exec = Jvm.exec) (hb : c.code = cc) (hml : c.maxLocals = nL) (hown : s.vm.findClass own = some m.cls) (htg : ∀ w ∈ wsG, w.before args s = true) (hK : Kt G s) (hW : Wh G x y H) (hS : va_S (gF G) H0 H locs) (h : m_X6_bufferReason p0 p1 x = some (v, z)) (hlk : Cond.methodLink own idx yX6_bufferReason ∈ wsG) (hn : ls.size = nL) (hr : (rest.map fun v => v.category).sum ≤ 8) (hR1 : 1 + 1 ≤ R.frames) (hR2 : 8 + (3 + 11) + 21 ≤ R.locals) (hf : cells ≤ R.cells ∧ slots ≤ R.slots) (hdg : decode cc pc = .ok (.invokevirtual idx, 3)) (kk : ∀ (H1 : Heap) (locs1 : List Loc), Wh G z y H1 → va_S (gF G) H0 H1 locs1 → W p l e R s m args below meth c H1 locs1 cells slots Q (F0 m (pc + 3) ls (.int v :: rest))) : W p l e R s m args below meth c H locs cells slots Q (F0 m pc ls (.ref (gA G 12 ↑p1.1 ↑p1.2) :: .ref (gA G 2 ↑p0 0) :: .ref (gA G 19 0 0) :: rest)) := by
  refine va_calli (va_runV (As := [.ref (gA G 2 ↑p0 0), .ref (gA G 12 ↑p1.1 ↑p1.2)]) (rest := rest) ⟨hx, hb, hml, hown, htg⟩ (c_X6_bufferReason l G x y p0 p1 (v, z) h) (cwV 2 htg (gd_V hlk q747 q748 q109 q749) rfl rfl rfl (by decide +kernel) ⟨hR1, hR2⟩) ⟨fun a U g mk q => ⟨q.1, q.2.1.calling, q.2.2⟩, rc_19 hK hW, fun U hU hW9 => ⟨rfl, hK.warm hW9, by rw [hU]; exact hW⟩⟩ rfl rfl hn rfl (lv_room hr) hdg hf) hS (fun _ _ h9 => h9) (fun _ h9 => h9) ?_
  intro r9 u t H1 locs1 ht hvm hw hB hz1 hk1 hS1
  replace hB : Wh G z y t.heap := hB
  rw [ht] at hB
  replace hw : r9 = v := hw
  subst hw
  exact kk H1 locs1 hB hS1
/-! METHOD X10_conflictsOfSet -/
def m_X10_conflictsOfSet_j30 (p0 : Fin 10) (p1 : Int32) (k4 : Int32 → Int32 → Mem → Option Int32) (x2 : Int32) (x3 : Int32) (x : Mem) : Option Int32 :=
  lt_ (x3 + (1 : Int32)) fun x3_7 => k4 x2 x3_7 x
def m_X10_conflictsOfSet_b4 (p0 : Fin 10) (p1 : Int32) (k4 : Int32 → Int32 → Mem → Option Int32) (x2 : Int32) (x3 : Int32) (x : Mem) : Option Int32 :=
  if (8 : Int32) ≤ x3 then (some x2) else (if (p1 &&& (shl32 (1 : Int32) x3)) = 0 then (m_X10_conflictsOfSet_j30 p0 p1 k4 x2 x3 x) else (gd_ x3 8 (lt_ (x2 ||| (x 4 ↑p0 0 x3.toNatClampNeg)) fun x2_6 => m_X10_conflictsOfSet_j30 p0 p1 k4 x2_6 x3 x)))
def m_X10_conflictsOfSet_l4 (p0 : Fin 10) (p1 : Int32) : Nat → Int32 → Int32 → Mem → Option Int32
  | 0, _, _, _ => none
  | n + 1, x2, x3, x => m_X10_conflictsOfSet_b4 p0 p1 (m_X10_conflictsOfSet_l4 p0 p1 n) x2 x3 x
def m_X10_conflictsOfSet (p0 : Fin 10) (p1 : Int32) (x : Mem) : Option Int32 :=
  lt_ (0 : Int32) fun x2_1 => lt_ (0 : Int32) fun x3_2 => m_X10_conflictsOfSet_l4 p0 p1 FU x2_1 x3_2 x
abbrev WS_X10_conflictsOfSet : List Cond := .code yX10_conflictsOfSet cX10_conflictsOfSet 4 (some .int) :: wsG
abbrev RM_X10_conflictsOfSet : Room := { frames := 0, cells := 0, slots := 0, locals := 0 }
set_option maxHeartbeats 4000000 in
set_option maxRecDepth 100000 in
theorem c_X10_conflictsOfSet (l : Launch) (G : Geo) (x y : Mem) (p0 : Fin 10) (p1 : Int32) (r : Int32) (h : m_X10_conflictsOfSet p0 p1 x = some r) : Met l yX10_conflictsOfSet WS_X10_conflictsOfSet RM_X10_conflictsOfSet (Pw G x y [.ref (gA G 3 ↑p0 0), .int p1]) (Qi G x y r) 0 0 (gF G) := by
  refine Met.ofW (cc := cX10_conflictsOfSet) (maxL := 4) (ret := (some .int)) (by decide) rfl ?_
  intro p e s m args below meth c s₁ B hml hv
  obtain ⟨rfl, hK, hW⟩ := hv
  have hx := B.exec
  have hb := B.bytes
  have hr := B.returns
  have hts := atoms_spec (ws := WS_X10_conflictsOfSet) B.pre
  have htg : ∀ w ∈ wsG, w.before _ s = true := fun w h => hts w (List.mem_cons_of_mem _ h)
  have hown : s.vm.findClass RX10 = some m.cls := findClass_of_methodNamed B.named
  have hlocks := B.notSynchronized
  have hS : va_S (gF G) s.heap s.heap [] := va_S.rf
  have hl := lv_entry ([.ref (gA G 3 ↑p0 0), .int p1]) (n := 4) (Nat.le_of_ble_eq_true rfl)
  rw [lg_entry_eq]
  generalize (lg_sl ([.ref (gA G 3 ↑p0 0), .int p1]) ++ List.replicate (4 - (lg_sl ([.ref (gA G 3 ↑p0 0), .int p1])).length) Slot.unset).toArray = ls at hl ⊢
  have hl : lv_has ls 4 [(0, .ref (gA G 3 ↑p0 0)), (1, .int p1)] := hl
  have hX := h
  unfold m_X10_conflictsOfSet at hX
  have J_30 : ∀ (k4 : Int32 → Int32 → Mem → Option Int32) (hk4 : ∀ (x2 : Int32) (x3 : Int32) (x : Mem) (H : Heap) (locs : List Loc) (ls : Array Slot), Wh G x y H → va_S (gF G) s.heap H locs → lv_has ls 4 [(0, .ref (gA G 3 ↑p0 0)), (1, .int p1), (2, .int x2), (3, .int x3)] → k4 x2 x3 x = some r → W p l e (headSpec WS_X10_conflictsOfSet RM_X10_conflictsOfSet).room s m ([.ref (gA G 3 ↑p0 0), .int p1] : List Value).toArray below meth c H locs 0 0 (MQ below (Qi G x y r) ([.ref (gA G 3 ↑p0 0), .int p1] : List Value).toArray s 0 0 (gF G)) (F0 m 4 ls [])), ∀ (x2 : Int32) (x3 : Int32) (x : Mem) (H : Heap) (locs : List Loc) (ls : Array Slot), Wh G x y H → va_S (gF G) s.heap H locs → lv_has ls 4 [(0, .ref (gA G 3 ↑p0 0)), (1, .int p1), (2, .int x2), (3, .int x3)] → m_X10_conflictsOfSet_j30 p0 p1 k4 x2 x3 x = some r → W p l e (headSpec WS_X10_conflictsOfSet RM_X10_conflictsOfSet).room s m ([.ref (gA G 3 ↑p0 0), .int p1] : List Value).toArray below meth c H locs 0 0 (MQ below (Qi G x y r) ([.ref (gA G 3 ↑p0 0), .int p1] : List Value).toArray s 0 0 (gF G)) (F0 m 30 ls []) := by
    intro k4 hk4 x2 x3 x H locs ls hW hS hl hX
    unfold m_X10_conflictsOfSet_j30 at hX
    obtain ⟨x3_7, e9⟩ : ∃ w : Int32, w = (x3 + (1 : Int32)) := ⟨_, rfl⟩
    have hX := lt_go hX e9
    refine lv_iinc (v := x3_7) (lv' := [(3, .int x3_7), (0, .ref (gA G 3 ↑p0 0)), (1, .int p1), (2, .int x2)]) hx hb dX10_conflictsOfSet_30 hl (k := 3) rfl (by rw [e9]; rfl) (by decide) rfl (fun ls hl => ?_)
    refine lv_goto (tgt := 4) hx hb dX10_conflictsOfSet_33 (by decide) ?_
    exact hk4 _ _ _ _ _ _ hW hS (lv_sub hl [1, 2, 3, 0] rfl) hX
  have B_4 : ∀ (k4 : Int32 → Int32 → Mem → Option Int32) (hk4 : ∀ (x2 : Int32) (x3 : Int32) (x : Mem) (H : Heap) (locs : List Loc) (ls : Array Slot), Wh G x y H → va_S (gF G) s.heap H locs → lv_has ls 4 [(0, .ref (gA G 3 ↑p0 0)), (1, .int p1), (2, .int x2), (3, .int x3)] → k4 x2 x3 x = some r → W p l e (headSpec WS_X10_conflictsOfSet RM_X10_conflictsOfSet).room s m ([.ref (gA G 3 ↑p0 0), .int p1] : List Value).toArray below meth c H locs 0 0 (MQ below (Qi G x y r) ([.ref (gA G 3 ↑p0 0), .int p1] : List Value).toArray s 0 0 (gF G)) (F0 m 4 ls [])), ∀ (x2 : Int32) (x3 : Int32) (x : Mem) (H : Heap) (locs : List Loc) (ls : Array Slot), Wh G x y H → va_S (gF G) s.heap H locs → lv_has ls 4 [(0, .ref (gA G 3 ↑p0 0)), (1, .int p1), (2, .int x2), (3, .int x3)] → m_X10_conflictsOfSet_b4 p0 p1 k4 x2 x3 x = some r → W p l e (headSpec WS_X10_conflictsOfSet RM_X10_conflictsOfSet).room s m ([.ref (gA G 3 ↑p0 0), .int p1] : List Value).toArray below meth c H locs 0 0 (MQ below (Qi G x y r) ([.ref (gA G 3 ↑p0 0), .int p1] : List Value).toArray s 0 0 (gF G)) (F0 m 4 ls []) := by
    intro k4 hk4 x2 x3 x H locs ls hW hS hl hX
    unfold m_X10_conflictsOfSet_b4 at hX
    refine lv_iload_n hx hb dX10_conflictsOfSet_4 rfl (lv_at hl 3 rfl) ?_
    refine lv_aload_n hx hb dX10_conflictsOfSet_5 rfl (lv_at hl 0 rfl) ?_
    refine gf_3_1 hx hb htg hown hK hW p0 q65 dX10_conflictsOfSet_6 ?_
    refine an_4 hx hb hK hW p0 dX10_conflictsOfSet_9 ?_
    refine lv_icmp_ge (tgt := 36) hx hb dX10_conflictsOfSet_10 (by decide) (fun c3 => ?_) (fun c3 => ?_)
    · have hX := it_t hX c3
      refine lv_iload_n hx hb dX10_conflictsOfSet_36 rfl (lv_at hl 2 rfl) ?_
      have hX := Option.some.inj hX
      subst hX
      exact rt_i hx hb hr hlocks hW hS dX10_conflictsOfSet_37
    · have hX := it_f hX c3
      refine lv_iload_n hx hb dX10_conflictsOfSet_13 rfl (lv_at hl 1 rfl) ?_
      refine lv_iconst (v := (1 : Int32)) hx hb dX10_conflictsOfSet_14 (by decide) ?_
      refine lv_iload_n hx hb dX10_conflictsOfSet_15 rfl (lv_at hl 3 rfl) ?_
      refine lv_ishl_ hx hb dX10_conflictsOfSet_16 ?_
      refine lv_iand hx hb dX10_conflictsOfSet_17 ?_
      refine lv_if_eq (tgt := 30) hx hb dX10_conflictsOfSet_18 (by decide) (fun c4 => ?_) (fun c4 => ?_)
      · have hX := it_t hX c4
        exact J_30 k4 hk4 _ _ _ _ _ _ hW hS (lv_sub hl [0, 1, 2, 3] rfl) hX
      · have hX := it_f hX c4
        refine lv_iload_n hx hb dX10_conflictsOfSet_21 rfl (lv_at hl 2 rfl) ?_
        refine lv_aload_n hx hb dX10_conflictsOfSet_22 rfl (lv_at hl 0 rfl) ?_
        refine gf_3_1 hx hb htg hown hK hW p0 q65 dX10_conflictsOfSet_23 ?_
        refine lv_iload_n hx hb dX10_conflictsOfSet_26 rfl (lv_at hl 3 rfl) ?_
        obtain ⟨g5, hX⟩ := gd_go hX
        refine al_4 hx hb hK hW p0 g5 dX10_conflictsOfSet_27 ?_
        refine lv_ior hx hb dX10_conflictsOfSet_28 ?_
        refine lv_topi (fun x2_6 e9 => ?_)
        have hX := lt_go hX e9
        refine lv_istore_n (lv' := [(2, .int x2_6), (0, .ref (gA G 3 ↑p0 0)), (1, .int p1), (3, .int x3)]) hx hb dX10_conflictsOfSet_29 rfl hl (by decide) rfl (fun ls hl => ?_)
        exact J_30 k4 hk4 _ _ _ _ _ _ hW hS (lv_sub hl [1, 2, 0, 3] rfl) hX
  have L_4 : ∀ (n : Nat), ∀ (x2 : Int32) (x3 : Int32) (x : Mem) (H : Heap) (locs : List Loc) (ls : Array Slot), Wh G x y H → va_S (gF G) s.heap H locs → lv_has ls 4 [(0, .ref (gA G 3 ↑p0 0)), (1, .int p1), (2, .int x2), (3, .int x3)] → m_X10_conflictsOfSet_l4 p0 p1 n x2 x3 x = some r → W p l e (headSpec WS_X10_conflictsOfSet RM_X10_conflictsOfSet).room s m ([.ref (gA G 3 ↑p0 0), .int p1] : List Value).toArray below meth c H locs 0 0 (MQ below (Qi G x y r) ([.ref (gA G 3 ↑p0 0), .int p1] : List Value).toArray s 0 0 (gF G)) (F0 m 4 ls []) := by
    intro n
    induction n with
    | zero => intro x2 x3 x H locs ls hW hS hl hX; exact no_go hX
    | succ n ih => intro x2 x3 x H locs ls hW hS hl hX; exact B_4 _ ih _ _ _ _ _ _ hW hS hl hX
  refine lv_iconst (v := (0 : Int32)) hx hb dX10_conflictsOfSet_0 (by decide) ?_
  refine lv_topi (fun x2_1 e9 => ?_)
  have hX := lt_go hX e9
  refine lv_istore_n (lv' := [(2, .int x2_1), (0, .ref (gA G 3 ↑p0 0)), (1, .int p1)]) hx hb dX10_conflictsOfSet_1 rfl hl (by decide) rfl (fun ls hl => ?_)
  refine lv_iconst (v := (0 : Int32)) hx hb dX10_conflictsOfSet_2 (by decide) ?_
  refine lv_topi (fun x3_2 e9 => ?_)
  have hX := lt_go hX e9
  refine lv_istore_n (lv' := [(3, .int x3_2), (2, .int x2_1), (0, .ref (gA G 3 ↑p0 0)), (1, .int p1)]) hx hb dX10_conflictsOfSet_3 rfl hl (by decide) rfl (fun ls hl => ?_)
  exact L_4 FU _ _ _ _ _ _ hW hS (lv_sub hl [2, 3, 1, 0] rfl) hX
set_option maxHeartbeats 4000000 in
theorem k_X10_conflictsOfSet {p : Program} {l : Launch} {e : Env} {R : Room} {s : State} {m : MethodId} {args : Array Value} {below : List Frame} {meth : Method} {c : Code} {H : Heap} {locs : List Loc} {cells slots : Nat} {Q : State → Prop} {cc : ByteArray} {pc nL idx : Nat} {own : String} {ls : Array Slot} {rest : List Value} {G : Geo} {x y : Mem} {H0 : Heap} {p0 : Fin 10} {p1 : Int32} {v : Int32} (hx : p.tables.exec = Jvm.exec) (hb : c.code = cc) (hml : c.maxLocals = nL) (hown : s.vm.findClass own = some m.cls) (htg : ∀ w ∈ wsG, w.before args s = true) (hK : Kt G s) (hW : Wh G x y H) (hS : va_S (gF G) H0 H locs) (h : m_X10_conflictsOfSet p0 p1 x = some v) (hlk : Cond.methodLink own idx yX10_conflictsOfSet ∈ wsG) (hn : ls.size = nL) (hr : (rest.map fun v => v.category).sum ≤ 8) (hR1 : 0 + 1 ≤ R.frames) (hR2 : 8 + (4 + 11) + 0 ≤ R.locals) (hf : cells ≤ R.cells ∧ slots ≤ R.slots) (hdg : decode cc pc = .ok (.invokevirtual idx, 3)) (kk : ∀ (H1 : Heap) (locs1 : List Loc), Wh G x y H1 → va_S (gF G) H0 H1 locs1 → W p l e R s m args below meth c H1 locs1 cells slots Q (F0 m (pc + 3) ls (.int v :: rest))) : W p l e R s m args below meth c H locs cells slots Q (F0 m pc ls (.int p1 :: .ref (gA G 3 ↑p0 0) :: rest)) := by
  refine va_calli (va_runV (As := [.int p1]) (rest := rest) ⟨hx, hb, hml, hown, htg⟩ (c_X10_conflictsOfSet l G x y p0 p1 v h) (cwV 1 htg (gd_V hlk q777 q778 q39 q779) rfl rfl rfl (by decide +kernel) ⟨hR1, hR2⟩) ⟨fun a U g mk q => ⟨q.1, q.2.1.calling, q.2.2⟩, rc_3 hK hW p0, fun U hU hW9 => ⟨rfl, hK.warm hW9, by rw [hU]; exact hW⟩⟩ rfl rfl hn rfl (lv_room hr) hdg hf) hS (fun _ _ h9 => h9) (fun _ h9 => h9) ?_
  intro r9 u t H1 locs1 ht hvm hw hB hz1 hk1 hS1
  replace hB : Wh G x y t.heap := hB
  rw [ht] at hB
  replace hw : r9 = v := hw
  subst hw
  exact kk H1 locs1 hB hS1
/-! METHOD X6_lookAt -/
def m_X6_lookAt_j95 (p0 : Fin 10) (k7 : Int32 → Mem → Option Mem) (x2 : Int32) (x : Mem) : Option Mem :=
  lt_ (x2 + (1 : Int32)) fun x2_21 => k7 x2_21 x
def m_X6_lookAt_b7 (p0 : Fin 10) (k7 : Int32 → Mem → Option Mem) (x2 : Int32) (x : Mem) : Option Mem :=
  if (3 : Int32) ≤ x2 then (some x) else (if (3 : Int32) ≤ x2 then (some x) else (bd_ (m_X1_armAt p0 x2) fun r6 => gd_ x2 3 (lt_ (up4 x 20 0 0 x2.toNatClampNeg (x 0 ↑r6.1 ↑r6.2 6)) fun x8 => lt_ (up4 x8 21 0 0 x2.toNatClampNeg (0 : Int32)) fun x9 => if (x9 0 ↑r6.1 ↑r6.2 2) = 0 then (m_X6_lookAt_j95 p0 k7 x2 x9) else (lt_ (up4 x9 19 0 0 1 ((x9 19 0 0 1) ||| (shl32 (1 : Int32) x2))) fun x11 => bd_ (m_X1_jobAt p0 (x11 0 ↑r6.1 ↑r6.2 3)) fun r13 => bd_ (m_X0_lastHeldPlace r6 x11) fun r15 => bd_ (m_X5_zonesBehind r13 r15 x11) fun r17 => bd_ (m_X10_conflictsOfSet p0 r17 x11) fun r19 => lt_ (up4 x11 21 0 0 x2.toNatClampNeg r19) fun x20 => m_X6_lookAt_j95 p0 k7 x2 x20))))
def m_X6_lookAt_l7 (p0 : Fin 10) : Nat → Int32 → Mem → Option Mem
  | 0, _, _ => none
  | n + 1, x2, x => m_X6_lookAt_b7 p0 (m_X6_lookAt_l7 p0 n) x2 x
def m_X6_lookAt (p0 : Fin 10) (x : Mem) : Option Mem :=
  lt_ (up4 x 19 0 0 1 (0 : Int32)) fun x1 => lt_ (0 : Int32) fun x2_2 => m_X6_lookAt_l7 p0 FU x2_2 x1
abbrev WS_X6_lookAt : List Cond := .code yX6_lookAt cX6_lookAt 4 none :: wsG
abbrev RM_X6_lookAt : Room := { frames := 1, cells := 0, slots := 0, locals := 24 }
set_option maxHeartbeats 4000000 in
set_option maxRecDepth 100000 in
theorem c_X6_lookAt (l : Launch) (G : Geo) (x y : Mem) (p0 : Fin 10) (r : Mem) (h : m_X6_lookAt p0 x = some r) : Met l yX6_lookAt WS_X6_lookAt RM_X6_lookAt (Pw G x y [.ref (gA G 19 0 0), .ref (gA G 2 ↑p0 0)]) (Qv G r y) 0 0 (gF G) := by
  refine Met.ofW (cc := cX6_lookAt) (maxL := 4) (ret := none) (by decide) rfl ?_
  intro p e s m args below meth c s₁ B hml hv
  obtain ⟨rfl, hK, hW⟩ := hv
  have hx := B.exec
  have hb := B.bytes
  have hr := B.returns
  have hts := atoms_spec (ws := WS_X6_lookAt) B.pre
  have htg : ∀ w ∈ wsG, w.before _ s = true := fun w h => hts w (List.mem_cons_of_mem _ h)
  have hown : s.vm.findClass RX6 = some m.cls := findClass_of_methodNamed B.named
  have hlocks := B.notSynchronized
  have hS : va_S (gF G) s.heap s.heap [] := va_S.rf
  have hl := lv_entry ([.ref (gA G 19 0 0), .ref (gA G 2 ↑p0 0)]) (n := 4) (Nat.le_of_ble_eq_true rfl)
  rw [lg_entry_eq]
  generalize (lg_sl ([.ref (gA G 19 0 0), .ref (gA G 2 ↑p0 0)]) ++ List.replicate (4 - (lg_sl ([.ref (gA G 19 0 0), .ref (gA G 2 ↑p0 0)])).length) Slot.unset).toArray = ls at hl ⊢
  have hl : lv_has ls 4 [(0, .ref (gA G 19 0 0)), (1, .ref (gA G 2 ↑p0 0))] := hl
  have hX := h
  unfold m_X6_lookAt at hX
  have J_95 : ∀ (k7 : Int32 → Mem → Option Mem) (hk7 : ∀ (x2 : Int32) (x : Mem) (H : Heap) (locs : List Loc) (ls : Array Slot), Wh G x y H → va_S (gF G) s.heap H locs → lv_has ls 4 [(0, .ref (gA G 19 0 0)), (1, .ref (gA G 2 ↑p0 0)), (2, .int x2)] → k7 x2 x = some r → W p l e (headSpec WS_X6_lookAt RM_X6_lookAt).room s m ([.ref (gA G 19 0 0), .ref (gA G 2 ↑p0 0)] : List Value).toArray below meth c H locs 0 0 (MQ below (Qv G r y) ([.ref (gA G 19 0 0), .ref (gA G 2 ↑p0 0)] : List Value).toArray s 0 0 (gF G)) (F0 m 7 ls [])), ∀ (x2 : Int32) (x : Mem) (H : Heap) (locs : List Loc) (ls : Array Slot), Wh G x y H → va_S (gF G) s.heap H locs → lv_has ls 4 [(0, .ref (gA G 19 0 0)), (1, .ref (gA G 2 ↑p0 0)), (2, .int x2)] → m_X6_lookAt_j95 p0 k7 x2 x = some r → W p l e (headSpec WS_X6_lookAt RM_X6_lookAt).room s m ([.ref (gA G 19 0 0), .ref (gA G 2 ↑p0 0)] : List Value).toArray below meth c H locs 0 0 (MQ below (Qv G r y) ([.ref (gA G 19 0 0), .ref (gA G 2 ↑p0 0)] : List Value).toArray s 0 0 (gF G)) (F0 m 95 ls []) := by
    intro k7 hk7 x2 x H locs ls hW hS hl hX
    unfold m_X6_lookAt_j95 at hX
    obtain ⟨x2_21, e9⟩ : ∃ w : Int32, w = (x2 + (1 : Int32)) := ⟨_, rfl⟩
    have hX := lt_go hX e9
    refine lv_iinc (v := x2_21) (lv' := [(2, .int x2_21), (0, .ref (gA G 19 0 0)), (1, .ref (gA G 2 ↑p0 0))]) hx hb dX6_lookAt_95 hl (k := 2) rfl (by rw [e9]; rfl) (by decide) rfl (fun ls hl => ?_)
    refine lv_goto (tgt := 7) hx hb dX6_lookAt_98 (by decide) ?_
    exact hk7 _ _ _ _ _ hW hS (lv_sub hl [1, 2, 0] rfl) hX
  have B_7 : ∀ (k7 : Int32 → Mem → Option Mem) (hk7 : ∀ (x2 : Int32) (x : Mem) (H : Heap) (locs : List Loc) (ls : Array Slot), Wh G x y H → va_S (gF G) s.heap H locs → lv_has ls 4 [(0, .ref (gA G 19 0 0)), (1, .ref (gA G 2 ↑p0 0)), (2, .int x2)] → k7 x2 x = some r → W p l e (headSpec WS_X6_lookAt RM_X6_lookAt).room s m ([.ref (gA G 19 0 0), .ref (gA G 2 ↑p0 0)] : List Value).toArray below meth c H locs 0 0 (MQ below (Qv G r y) ([.ref (gA G 19 0 0), .ref (gA G 2 ↑p0 0)] : List Value).toArray s 0 0 (gF G)) (F0 m 7 ls [])), ∀ (x2 : Int32) (x : Mem) (H : Heap) (locs : List Loc) (ls : Array Slot), Wh G x y H → va_S (gF G) s.heap H locs → lv_has ls 4 [(0, .ref (gA G 19 0 0)), (1, .ref (gA G 2 ↑p0 0)), (2, .int x2)] → m_X6_lookAt_b7 p0 k7 x2 x = some r → W p l e (headSpec WS_X6_lookAt RM_X6_lookAt).room s m ([.ref (gA G 19 0 0), .ref (gA G 2 ↑p0 0)] : List Value).toArray below meth c H locs 0 0 (MQ below (Qv G r y) ([.ref (gA G 19 0 0), .ref (gA G 2 ↑p0 0)] : List Value).toArray s 0 0 (gF G)) (F0 m 7 ls []) := by
    intro k7 hk7 x2 x H locs ls hW hS hl hX
    unfold m_X6_lookAt_b7 at hX
    refine lv_iload_n hx hb dX6_lookAt_7 rfl (lv_at hl 2 rfl) ?_
    refine lv_aload_n hx hb dX6_lookAt_8 rfl (lv_at hl 0 rfl) ?_
    refine gf_19_2 hx hb htg hown hK hW q116 dX6_lookAt_9 ?_
    refine an_20 hx hb hK hW dX6_lookAt_12 ?_
    refine lv_icmp_ge (tgt := 101) hx hb dX6_lookAt_13 (by decide) (fun c3 => ?_) (fun c3 => ?_)
    · have hX := it_t hX c3
      have hX := Option.some.inj hX
      subst hX
      exact rt_v hx hb hr hlocks hW hS dX6_lookAt_101
    · have hX := it_f hX c3
      refine lv_iload_n hx hb dX6_lookAt_16 rfl (lv_at hl 2 rfl) ?_
      refine lv_aload_n hx hb dX6_lookAt_17 rfl (lv_at hl 0 rfl) ?_
      refine gf_19_3 hx hb htg hown hK hW q117 dX6_lookAt_18 ?_
      refine an_21 hx hb hK hW dX6_lookAt_21 ?_
      refine lv_icmp_ge (tgt := 101) hx hb dX6_lookAt_22 (by decide) (fun c4 => ?_) (fun c4 => ?_)
      · have hX := it_t hX c4
        have hX := Option.some.inj hX
        subst hX
        exact rt_v hx hb hr hlocks hW hS dX6_lookAt_101
      · have hX := it_f hX c4
        refine lv_aload_n hx hb dX6_lookAt_25 rfl (lv_at hl 1 rfl) ?_
        refine lv_iload_n hx hb dX6_lookAt_26 rfl (lv_at hl 2 rfl) ?_
        obtain ⟨r6, h5, hX⟩ := bd_go hX
        refine k_X1_armAt hx hb hml hown htg hK hW hS h5 q770 hl.1 (Nat.le_of_ble_eq_true rfl) (Nat.le_of_ble_eq_true rfl) (Nat.le_of_ble_eq_true rfl) ⟨Nat.zero_le _, Nat.zero_le _⟩ dX6_lookAt_27 (fun H locs hW hS => ?_)
        refine lv_astore_n (lv' := [(3, .ref (gA G 0 ↑r6.1 ↑r6.2)), (0, .ref (gA G 19 0 0)), (1, .ref (gA G 2 ↑p0 0)), (2, .int x2)]) hx hb dX6_lookAt_30 rfl hl (by decide) rfl (fun ls hl => ?_)
        refine lv_aload_n hx hb dX6_lookAt_31 rfl (lv_at hl 1 rfl) ?_
        refine gf_19_2 hx hb htg hown hK hW q116 dX6_lookAt_32 ?_
        refine lv_iload_n hx hb dX6_lookAt_35 rfl (lv_at hl 3 rfl) ?_
        refine lv_aload_n hx hb dX6_lookAt_36 rfl (lv_at hl 0 rfl) ?_
        refine gf_0_6 hx hb htg hown hK hW r6 q768 dX6_lookAt_37 ?_
        obtain ⟨g7, hX⟩ := gd_go hX
        refine as_20 hx hb hK hW hS g7 dX6_lookAt_40 (fun H locs hW hS => ?_)
        obtain ⟨x8, e9⟩ : ∃ w : Mem, w = (up4 x 20 0 0 x2.toNatClampNeg (x 0 ↑r6.1 ↑r6.2 6)) := ⟨_, rfl⟩
        rw [← e9] at hW
        have hX := lt_go hX e9
        refine lv_aload_n hx hb dX6_lookAt_41 rfl (lv_at hl 1 rfl) ?_
        refine gf_19_3 hx hb htg hown hK hW q117 dX6_lookAt_42 ?_
        refine lv_iload_n hx hb dX6_lookAt_45 rfl (lv_at hl 3 rfl) ?_
        refine lv_iconst (v := (0 : Int32)) hx hb dX6_lookAt_46 (by decide) ?_
        refine as_21 hx hb hK hW hS g7 dX6_lookAt_47 (fun H locs hW hS => ?_)
        obtain ⟨x9, e9⟩ : ∃ w : Mem, w = (up4 x8 21 0 0 x2.toNatClampNeg (0 : Int32)) := ⟨_, rfl⟩
        rw [← e9] at hW
        have hX := lt_go hX e9
        refine lv_aload_n hx hb dX6_lookAt_48 rfl (lv_at hl 0 rfl) ?_
        refine gf_0_2 hx hb htg hown hK hW r6 q738 dX6_lookAt_49 ?_
        refine lv_if_eq (tgt := 95) hx hb dX6_lookAt_52 (by decide) (fun c10 => ?_) (fun c10 => ?_)
        · have hX := it_t hX c10
          exact J_95 k7 hk7 _ _ _ _ _ hW hS (lv_sub hl [1, 2, 3] rfl) hX
        · have hX := it_f hX c10
          refine lv_aload_n hx hb dX6_lookAt_55 rfl (lv_at hl 1 rfl) ?_
          refine lv_dup hx hb dX6_lookAt_56 rfl ?_
          refine gf_19_1 hx hb htg hown hK hW q767 dX6_lookAt_57 ?_
          refine lv_iconst (v := (1 : Int32)) hx hb dX6_lookAt_60 (by decide) ?_
          refine lv_iload_n hx hb dX6_lookAt_61 rfl (lv_at hl 3 rfl) ?_
          refine lv_ishl_ hx hb dX6_lookAt_62 ?_
          refine lv_ior hx hb dX6_lookAt_63 ?_
          refine pf_19_1 hx hb htg hown hK hW hS q767 dX6_lookAt_64 (fun H locs hW hS => ?_)
          obtain ⟨x11, e9⟩ : ∃ w : Mem, w = (up4 x9 19 0 0 1 ((x9 19 0 0 1) ||| (shl32 (1 : Int32) x2))) := ⟨_, rfl⟩
          rw [← e9] at hW
          have hX := lt_go hX e9
          refine lv_aload_n hx hb dX6_lookAt_67 rfl (lv_at hl 1 rfl) ?_
          refine gf_19_3 hx hb htg hown hK hW q117 dX6_lookAt_68 ?_
          refine lv_iload_n hx hb dX6_lookAt_71 rfl (lv_at hl 3 rfl) ?_
          refine lv_aload_n hx hb dX6_lookAt_72 rfl (lv_at hl 2 rfl) ?_
          refine gf_2_7 hx hb htg hown hK hW p0 q739 dX6_lookAt_73 ?_
          refine lv_aload_n hx hb dX6_lookAt_76 rfl (lv_at hl 2 rfl) ?_
          refine lv_aload_n hx hb dX6_lookAt_77 rfl (lv_at hl 0 rfl) ?_
          refine gf_0_3 hx hb htg hown hK hW r6 q769 dX6_lookAt_78 ?_
          obtain ⟨r13, h12, hX⟩ := bd_go hX
          refine k_X1_jobAt hx hb hml hown htg hK hW hS h12 q743 hl.1 (Nat.le_of_ble_eq_true rfl) (Nat.le_of_ble_eq_true rfl) (Nat.le_of_ble_eq_true rfl) ⟨Nat.zero_le _, Nat.zero_le _⟩ dX6_lookAt_81 (fun H locs hW hS => ?_)
          refine lv_aload_n hx hb dX6_lookAt_84 rfl (lv_at hl 0 rfl) ?_
          obtain ⟨r15, h14, hX⟩ := bd_go hX
          refine k_X0_lastHeldPlace hx hb hml hown htg hK hW hS h14 q771 hl.1 (Nat.le_of_ble_eq_true rfl) (Nat.le_of_ble_eq_true rfl) (Nat.le_of_ble_eq_true rfl) ⟨Nat.zero_le _, Nat.zero_le _⟩ dX6_lookAt_85 (fun H locs hW hS => ?_)
          obtain ⟨r17, h16, hX⟩ := bd_go hX
          refine k_X5_zonesBehind hx hb hml hown htg hK hW hS h16 q772 hl.1 (Nat.le_of_ble_eq_true rfl) (Nat.le_of_ble_eq_true rfl) (Nat.le_of_ble_eq_true rfl) ⟨Nat.zero_le _, Nat.zero_le _⟩ dX6_lookAt_88 (fun H locs hW hS => ?_)
          obtain ⟨r19, h18, hX⟩ := bd_go hX
          refine k_X10_conflictsOfSet hx hb hml hown htg hK hW hS h18 q776 hl.1 (Nat.le_of_ble_eq_true rfl) (Nat.le_of_ble_eq_true rfl) (Nat.le_of_ble_eq_true rfl) ⟨Nat.zero_le _, Nat.zero_le _⟩ dX6_lookAt_91 (fun H locs hW hS => ?_)
          refine as_21 hx hb hK hW hS g7 dX6_lookAt_94 (fun H locs hW hS => ?_)
          obtain ⟨x20, e9⟩ : ∃ w : Mem, w = (up4 x11 21 0 0 x2.toNatClampNeg r19) := ⟨_, rfl⟩
          rw [← e9] at hW
          have hX := lt_go hX e9
          exact J_95 k7 hk7 _ _ _ _ _ hW hS (lv_sub hl [1, 2, 3] rfl) hX
  have L_7 : ∀ (n : Nat), ∀ (x2 : Int32) (x : Mem) (H : Heap) (locs : List Loc) (ls : Array Slot), Wh G x y H → va_S (gF G) s.heap H locs → lv_has ls 4 [(0, .ref (gA G 19 0 0)), (1, .ref (gA G 2 ↑p0 0)), (2, .int x2)] → m_X6_lookAt_l7 p0 n x2 x = some r → W p l e (headSpec WS_X6_lookAt RM_X6_lookAt).room s m ([.ref (gA G 19 0 0), .ref (gA G 2 ↑p0 0)] : List Value).toArray below meth c H locs 0 0 (MQ below (Qv G r y) ([.ref (gA G 19 0 0), .ref (gA G 2 ↑p0 0)] : List Value).toArray s 0 0 (gF G)) (F0 m 7 ls []) := by
    intro n
    induction n with
    | zero => intro x2 x H locs ls hW hS hl hX; exact no_go hX
    | succ n ih => intro x2 x H locs ls hW hS hl hX; exact B_7 _ ih _ _ _ _ _ hW hS hl hX
  refine lv_aload_n hx hb dX6_lookAt_0 rfl (lv_at hl 0 rfl) ?_
  refine lv_iconst (v := (0 : Int32)) hx hb dX6_lookAt_1 (by decide) ?_
  refine pf_19_1 hx hb htg hown hK hW hS q767 dX6_lookAt_2 (fun H locs hW hS => ?_)
  obtain ⟨x1, e9⟩ : ∃ w : Mem, w = (up4 x 19 0 0 1 (0 : Int32)) := ⟨_, rfl⟩
  rw [← e9] at hW
  have hX := lt_go hX e9
  refine lv_iconst (v := (0 : Int32)) hx hb dX6_lookAt_5 (by decide) ?_
  refine lv_topi (fun x2_2 e9 => ?_)
  have hX := lt_go hX e9
  refine lv_istore_n (lv' := [(2, .int x2_2), (0, .ref (gA G 19 0 0)), (1, .ref (gA G 2 ↑p0 0))]) hx hb dX6_lookAt_6 rfl hl (by decide) rfl (fun ls hl => ?_)
  exact L_7 FU _ _ _ _ _ hW hS (lv_sub hl [1, 2, 0] rfl) hX
set_option maxHeartbeats 4000000 in
theorem k_X6_lookAt {p : Program} {l : Launch} {e : Env} {R : Room} {s : State} {m : MethodId} {args : Array Value} {below : List Frame} {meth : Method} {c : Code} {H : Heap} {locs : List Loc} {cells slots : Nat} {Q : State → Prop} {cc : ByteArray} {pc nL idx : Nat} {own : String} {ls : Array Slot} {rest : List Value} {G : Geo} {x y : Mem} {H0 : Heap} {p0 : Fin 10} {z : Mem} (hx : p.tables.exec = Jvm.exec) (hb : c.code = cc) (hml : c.maxLocals = nL) (hown : s.vm.findClass own = some m.cls) (htg : ∀ w ∈ wsG, w.before args s = true) (hK : Kt G s) (hW : Wh G x y H) (hS : va_S (gF G) H0 H locs) (h : m_X6_lookAt p0 x = some z) (hlk : Cond.methodLink own idx yX6_lookAt ∈ wsG) (hn : ls.size = nL) (hr : (rest.map fun v => v.category).sum ≤ 8) (hR1 : 1 + 1 ≤ R.frames) (hR2 : 8 + (4 + 11) + 24 ≤ R.locals) (hf : cells ≤ R.cells ∧ slots ≤ R.slots) (hdg : decode cc pc = .ok (.invokevirtual idx, 3)) (kk : ∀ (H1 : Heap) (locs1 : List Loc), Wh G z y H1 → va_S (gF G) H0 H1 locs1 → W p l e R s m args below meth c H1 locs1 cells slots Q (F0 m (pc + 3) ls (rest))) : W p l e R s m args below meth c H locs cells slots Q (F0 m pc ls (.ref (gA G 2 ↑p0 0) :: .ref (gA G 19 0 0) :: rest)) := by
  refine va_callv (va_runV (As := [.ref (gA G 2 ↑p0 0)]) (rest := rest) ⟨hx, hb, hml, hown, htg⟩ (c_X6_lookAt l G x y p0 z h) (cwV 1 htg (gd_V hlk q764 q765 q109 q766) rfl rfl rfl (by decide +kernel) ⟨hR1, hR2⟩) ⟨fun a U g mk q => ⟨q.1, q.2.1.calling, q.2.2⟩, rc_19 hK hW, fun U hU hW9 => ⟨rfl, hK.warm hW9, by rw [hU]; exact hW⟩⟩ rfl rfl hn rfl (lv_room hr) hdg hf) hS (fun _ _ h9 => h9) (fun _ h9 => h9) ?_
  intro u t H1 locs1 ht hvm hw hB hz1 hk1 hS1
  replace hB : Wh G z y t.heap := hB
  rw [ht] at hB
  exact kk H1 locs1 hB hS1
