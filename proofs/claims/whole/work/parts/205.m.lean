/-! METHOD X1_endJob -/
def m_X1_endJob (p0 : Fin 10) (p1 : Fin 10 × Fin 4) (x : Mem) : Option Mem :=
  bd_ (m_X1_jobAt p0 (x 0 ↑p1.1 ↑p1.2 3)) fun r2 => bd_ (m_X5_zoneAt r2 (x 0 ↑p1.1 ↑p1.2 4) x) fun r4 => bd_ (m_X7_add p0 (x 2 ↑p0 0 0) (x 0 ↑p1.1 ↑p1.2 0) (3 : Int32) r4 x) fun x7 => bd_ (m_X1_moveParts p0 r2 x7) fun x10 => lt_ (up4 x10 12 ↑r2.1 ↑r2.2 7 (2 : Int32)) fun x11 => lt_ (up4 x11 12 ↑r2.1 ↑r2.2 9 (x11 2 ↑p0 0 0)) fun x12 => lt_ (up4 x12 2 ↑p0 0 2 ((x12 2 ↑p0 0 2) + (1 : Int32))) fun x13 => lt_ (up4 x13 2 ↑p0 0 6 ((x13 2 ↑p0 0 6) + ((x13 12 ↑r2.1 ↑r2.2 9) - (x13 12 ↑r2.1 ↑r2.2 8)))) fun x14 => bd_ (m_X0_rest p1 x14) fun x17 => some x17
abbrev WS_X1_endJob : List Cond := .code yX1_endJob cX1_endJob 3 none :: wsG
abbrev RM_X1_endJob : Room := { frames := 2, cells := 0, slots := 0, locals := 45 }
set_option maxHeartbeats 4000000 in
set_option maxRecDepth 100000 in
theorem c_X1_endJob (l : Launch) (G : Geo) (x y : Mem) (p0 : Fin 10) (p1 : Fin 10 × Fin 4) (r : Mem) (h : m_X1_endJob p0 p1 x = some r) : Met l yX1_endJob WS_X1_endJob RM_X1_endJob (Pw G x y [.ref (gA G 2 ↑p0 0), .ref (gA G 0 ↑p1.1 ↑p1.2)]) (Qv G r y) 0 0 (gF G) := by
  refine Met.ofW (cc := cX1_endJob) (maxL := 3) (ret := none) (by decide) rfl ?_
  intro p e s m args below meth c s₁ B hml hv
  obtain ⟨rfl, hK, hW⟩ := hv
  have hx := B.exec
  have hb := B.bytes
  have hr := B.returns
  have hts := atoms_spec (ws := WS_X1_endJob) B.pre
  have htg : ∀ w ∈ wsG, w.before _ s = true := fun w h => hts w (List.mem_cons_of_mem _ h)
  have hown : s.vm.findClass RX1 = some m.cls := findClass_of_methodNamed B.named
  have hlocks := B.notSynchronized
  have hS : va_S (gF G) s.heap s.heap [] := va_S.rf
  have hl := lv_entry ([.ref (gA G 2 ↑p0 0), .ref (gA G 0 ↑p1.1 ↑p1.2)]) (n := 3) (Nat.le_of_ble_eq_true rfl)
  rw [lg_entry_eq]
  generalize (lg_sl ([.ref (gA G 2 ↑p0 0), .ref (gA G 0 ↑p1.1 ↑p1.2)]) ++ List.replicate (3 - (lg_sl ([.ref (gA G 2 ↑p0 0), .ref (gA G 0 ↑p1.1 ↑p1.2)])).length) Slot.unset).toArray = ls at hl ⊢
  have hl : lv_has ls 3 [(0, .ref (gA G 2 ↑p0 0)), (1, .ref (gA G 0 ↑p1.1 ↑p1.2))] := hl
  have hX := h
  unfold m_X1_endJob at hX
  refine lv_aload_n hx hb dX1_endJob_0 rfl (lv_at hl 0 rfl) ?_
  refine lv_aload_n hx hb dX1_endJob_1 rfl (lv_at hl 1 rfl) ?_
  refine gf_0_3 hx hb htg hown hK hW p1 q644 dX1_endJob_2 ?_
  obtain ⟨r2, h1, hX⟩ := bd_go hX
  refine k_X1_jobAt hx hb hml hown htg hK hW hS h1 q284 hl.1 (Nat.le_of_ble_eq_true rfl) (Nat.le_of_ble_eq_true rfl) (Nat.le_of_ble_eq_true rfl) ⟨Nat.zero_le _, Nat.zero_le _⟩ dX1_endJob_5 (fun H locs hW hS => ?_)
  refine lv_astore_n (lv' := [(2, .ref (gA G 12 ↑r2.1 ↑r2.2)), (0, .ref (gA G 2 ↑p0 0)), (1, .ref (gA G 0 ↑p1.1 ↑p1.2))]) hx hb dX1_endJob_8 rfl hl (by decide) rfl (fun ls hl => ?_)
  refine lv_aload_n hx hb dX1_endJob_9 rfl (lv_at hl 1 rfl) ?_
  refine gf_2_8 hx hb htg hown hK hW p0 q44 dX1_endJob_10 ?_
  refine lv_aload_n hx hb dX1_endJob_13 rfl (lv_at hl 1 rfl) ?_
  refine gf_2_0 hx hb htg hown hK hW p0 q239 dX1_endJob_14 ?_
  refine lv_aload_n hx hb dX1_endJob_17 rfl (lv_at hl 2 rfl) ?_
  refine gf_0_0 hx hb htg hown hK hW p1 q705 dX1_endJob_18 ?_
  refine lv_iconst (v := (3 : Int32)) hx hb dX1_endJob_21 (by decide) ?_
  refine lv_aload_n hx hb dX1_endJob_22 rfl (lv_at hl 0 rfl) ?_
  refine lv_aload_n hx hb dX1_endJob_23 rfl (lv_at hl 2 rfl) ?_
  refine gf_0_4 hx hb htg hown hK hW p1 q646 dX1_endJob_24 ?_
  obtain ⟨r4, h3, hX⟩ := bd_go hX
  refine k_X5_zoneAt hx hb hml hown htg hK hW hS h3 q651 hl.1 (Nat.le_of_ble_eq_true rfl) (Nat.le_of_ble_eq_true rfl) (Nat.le_of_ble_eq_true rfl) ⟨Nat.zero_le _, Nat.zero_le _⟩ dX1_endJob_27 (fun H locs hW hS => ?_)
  obtain ⟨x7, h5, hX⟩ := bd_go hX
  refine k_X7_add hx hb hml hown htg hK hW hS h5 q710 hl.1 (Nat.le_of_ble_eq_true rfl) (Nat.le_of_ble_eq_true rfl) (Nat.le_of_ble_eq_true rfl) ⟨Nat.zero_le _, Nat.zero_le _⟩ dX1_endJob_30 (fun H locs hW hS => ?_)
  refine lv_aload_n hx hb dX1_endJob_33 rfl (lv_at hl 1 rfl) ?_
  refine lv_aload_n hx hb dX1_endJob_34 rfl (lv_at hl 0 rfl) ?_
  obtain ⟨x10, h8, hX⟩ := bd_go hX
  refine k_X1_moveParts hx hb hml hown htg hK hW hS h8 q814 hl.1 (Nat.le_of_ble_eq_true rfl) (Nat.le_of_ble_eq_true rfl) (Nat.le_of_ble_eq_true rfl) ⟨Nat.zero_le _, Nat.zero_le _⟩ dX1_endJob_35 (fun H locs hW hS => ?_)
  refine lv_aload_n hx hb dX1_endJob_38 rfl (lv_at hl 0 rfl) ?_
  refine lv_iconst (v := (2 : Int32)) hx hb dX1_endJob_39 (by decide) ?_
  refine pf_12_7 hx hb htg hown hK hW hS r2 q555 dX1_endJob_40 (fun H locs hW hS => ?_)
  obtain ⟨x11, e9⟩ : ∃ w : Mem, w = (up4 x10 12 ↑r2.1 ↑r2.2 7 (2 : Int32)) := ⟨_, rfl⟩
  rw [← e9] at hW
  have hX := lt_go hX e9
  refine lv_aload_n hx hb dX1_endJob_43 rfl (lv_at hl 0 rfl) ?_
  refine lv_aload_n hx hb dX1_endJob_44 rfl (lv_at hl 1 rfl) ?_
  refine gf_2_0 hx hb htg hown hK hW p0 q239 dX1_endJob_45 ?_
  refine pf_12_9 hx hb htg hown hK hW hS r2 q557 dX1_endJob_48 (fun H locs hW hS => ?_)
  obtain ⟨x12, e9⟩ : ∃ w : Mem, w = (up4 x11 12 ↑r2.1 ↑r2.2 9 (x11 2 ↑p0 0 0)) := ⟨_, rfl⟩
  rw [← e9] at hW
  have hX := lt_go hX e9
  refine lv_aload_n hx hb dX1_endJob_51 rfl (lv_at hl 1 rfl) ?_
  refine lv_dup hx hb dX1_endJob_52 rfl ?_
  refine gf_2_2 hx hb htg hown hK hW p0 q241 dX1_endJob_53 ?_
  refine lv_iconst (v := (1 : Int32)) hx hb dX1_endJob_56 (by decide) ?_
  refine lv_iadd hx hb dX1_endJob_57 ?_
  refine pf_2_2 hx hb htg hown hK hW hS p0 q241 dX1_endJob_58 (fun H locs hW hS => ?_)
  obtain ⟨x13, e9⟩ : ∃ w : Mem, w = (up4 x12 2 ↑p0 0 2 ((x12 2 ↑p0 0 2) + (1 : Int32))) := ⟨_, rfl⟩
  rw [← e9] at hW
  have hX := lt_go hX e9
  refine lv_aload_n hx hb dX1_endJob_61 rfl (lv_at hl 1 rfl) ?_
  refine lv_dup hx hb dX1_endJob_62 rfl ?_
  refine gf_2_6 hx hb htg hown hK hW p0 q245 dX1_endJob_63 ?_
  refine lv_aload_n hx hb dX1_endJob_66 rfl (lv_at hl 0 rfl) ?_
  refine gf_12_9 hx hb htg hown hK hW r2 q557 dX1_endJob_67 ?_
  refine lv_aload_n hx hb dX1_endJob_70 rfl (lv_at hl 0 rfl) ?_
  refine gf_12_8 hx hb htg hown hK hW r2 q556 dX1_endJob_71 ?_
  refine lv_isub hx hb dX1_endJob_74 ?_
  refine lv_iadd hx hb dX1_endJob_75 ?_
  refine pf_2_6 hx hb htg hown hK hW hS p0 q245 dX1_endJob_76 (fun H locs hW hS => ?_)
  obtain ⟨x14, e9⟩ : ∃ w : Mem, w = (up4 x13 2 ↑p0 0 6 ((x13 2 ↑p0 0 6) + ((x13 12 ↑r2.1 ↑r2.2 9) - (x13 12 ↑r2.1 ↑r2.2 8)))) := ⟨_, rfl⟩
  rw [← e9] at hW
  have hX := lt_go hX e9
  refine lv_aload_n hx hb dX1_endJob_79 rfl (lv_at hl 2 rfl) ?_
  obtain ⟨x17, h15, hX⟩ := bd_go hX
  refine k_X0_rest hx hb hml hown htg hK hW hS h15 q824 hl.1 (Nat.le_of_ble_eq_true rfl) (Nat.le_of_ble_eq_true rfl) (Nat.le_of_ble_eq_true rfl) ⟨Nat.zero_le _, Nat.zero_le _⟩ dX1_endJob_80 (fun H locs hW hS => ?_)
  have hX := Option.some.inj hX
  subst hX
  exact rt_v hx hb hr hlocks hW hS dX1_endJob_83
set_option maxHeartbeats 4000000 in
theorem k_X1_endJob {p : Program} {l : Launch} {e : Env} {R : Room} {s : State} {m : MethodId} {args : Array Value} {below : List Frame} {meth : Method} {c : Code} {H : Heap} {locs : List Loc} {cells slots : Nat} {Q : State → Prop} {cc : ByteArray} {pc nL idx : Nat} {own : String} {ls : Array Slot} {rest : List Value} {G : Geo} {x y : Mem} {H0 : Heap} {p0 : Fin 10} {p1 : Fin 10 × Fin 4} {z : Mem} (hx : p.tables.exec = Jvm.exec) (hb : c.code = cc) (hml : c.maxLocals = nL) (hown : s.vm.findClass own = some m.cls) (htg : ∀ w ∈ wsG, w.before args s = true) (hK : Kt G s) (hW : Wh G x y H) (hS : va_S (gF G) H0 H locs) (h : m_X1_endJob p0 p1 x = some z) (hlk : Cond.methodLink own idx yX1_endJob ∈ wsG) (hn : ls.size = nL) (hr : (rest.map fun v => v.category).sum ≤ 8) (hR1 : 2 + 1 ≤ R.frames) (hR2 : 8 + (3 + 11) + 45 ≤ R.locals) (hf : cells ≤ R.cells ∧ slots ≤ R.slots) (hdg : decode cc pc = .ok (.invokevirtual idx, 3)) (kk : ∀ (H1 : Heap) (locs1 : List Loc), Wh G z y H1 → va_S (gF G) H0 H1 locs1 → W p l e R s m args below meth c H1 locs1 cells slots Q (F0 m (pc + 3) ls (rest))) : W p l e R s m args below meth c H locs cells slots Q (F0 m pc ls (.ref (gA G 0 ↑p1.1 ↑p1.2) :: .ref (gA G 2 ↑p0 0) :: rest)) := by
  refine va_callv (va_runV (As := [.ref (gA G 0 ↑p1.1 ↑p1.2)]) (rest := rest) ⟨hx, hb, hml, hown, htg⟩ (c_X1_endJob l G x y p0 p1 z h) (cwV 1 htg (gd_V hlk q811 q812 q16 q813) rfl rfl rfl (by decide +kernel) ⟨hR1, hR2⟩) ⟨fun a U g mk q => ⟨q.1, q.2.1.calling, q.2.2⟩, rc_2 hK hW p0, fun U hU hW9 => ⟨rfl, hK.warm hW9, by rw [hU]; exact hW⟩⟩ rfl rfl hn rfl (lv_room hr) hdg hf) hS (fun _ _ h9 => h9) (fun _ h9 => h9) ?_
  intro u t H1 locs1 ht hvm hw hB hz1 hk1 hS1
  replace hB : Wh G z y t.heap := hB
  rw [ht] at hB
  exact kk H1 locs1 hB hS1
/-! METHOD X1_endMove -/
def m_X1_endMove (p0 : Fin 10) (p1 : Fin 10 × Fin 4) (x : Mem) : Option Mem :=
  bd_ (m_X1_jobAt p0 (x 0 ↑p1.1 ↑p1.2 3)) fun r2 => bd_ (m_X5_zoneAt r2 (x 0 ↑p1.1 ↑p1.2 4) x) fun r4 => lt_ r4 fun x3_5 => bd_ (m_X5_zoneAt r2 ((x 0 ↑p1.1 ↑p1.2 4) + (1 : Int32)) x) fun r7 => bd_ (m_X0_workAt p1 ((x 0 ↑p1.1 ↑p1.2 4) + (1 : Int32)) r7 (x 12 ↑r2.1 ↑r2.2 3) x) fun x10 => bd_ (m_X7_add p0 (x10 2 ↑p0 0 0) (x10 0 ↑p1.1 ↑p1.2 0) (2 : Int32) x3_5 x10) fun x13 => some x13
abbrev WS_X1_endMove : List Cond := .code yX1_endMove cX1_endMove 4 none :: wsG
abbrev RM_X1_endMove : Room := { frames := 1, cells := 0, slots := 0, locals := 25 }
set_option maxHeartbeats 4000000 in
set_option maxRecDepth 100000 in
theorem c_X1_endMove (l : Launch) (G : Geo) (x y : Mem) (p0 : Fin 10) (p1 : Fin 10 × Fin 4) (r : Mem) (h : m_X1_endMove p0 p1 x = some r) : Met l yX1_endMove WS_X1_endMove RM_X1_endMove (Pw G x y [.ref (gA G 2 ↑p0 0), .ref (gA G 0 ↑p1.1 ↑p1.2)]) (Qv G r y) 0 0 (gF G) := by
  refine Met.ofW (cc := cX1_endMove) (maxL := 4) (ret := none) (by decide) rfl ?_
  intro p e s m args below meth c s₁ B hml hv
  obtain ⟨rfl, hK, hW⟩ := hv
  have hx := B.exec
  have hb := B.bytes
  have hr := B.returns
  have hts := atoms_spec (ws := WS_X1_endMove) B.pre
  have htg : ∀ w ∈ wsG, w.before _ s = true := fun w h => hts w (List.mem_cons_of_mem _ h)
  have hown : s.vm.findClass RX1 = some m.cls := findClass_of_methodNamed B.named
  have hlocks := B.notSynchronized
  have hS : va_S (gF G) s.heap s.heap [] := va_S.rf
  have hl := lv_entry ([.ref (gA G 2 ↑p0 0), .ref (gA G 0 ↑p1.1 ↑p1.2)]) (n := 4) (Nat.le_of_ble_eq_true rfl)
  rw [lg_entry_eq]
  generalize (lg_sl ([.ref (gA G 2 ↑p0 0), .ref (gA G 0 ↑p1.1 ↑p1.2)]) ++ List.replicate (4 - (lg_sl ([.ref (gA G 2 ↑p0 0), .ref (gA G 0 ↑p1.1 ↑p1.2)])).length) Slot.unset).toArray = ls at hl ⊢
  have hl : lv_has ls 4 [(0, .ref (gA G 2 ↑p0 0)), (1, .ref (gA G 0 ↑p1.1 ↑p1.2))] := hl
  have hX := h
  unfold m_X1_endMove at hX
  refine lv_aload_n hx hb dX1_endMove_0 rfl (lv_at hl 0 rfl) ?_
  refine lv_aload_n hx hb dX1_endMove_1 rfl (lv_at hl 1 rfl) ?_
  refine gf_0_3 hx hb htg hown hK hW p1 q644 dX1_endMove_2 ?_
  obtain ⟨r2, h1, hX⟩ := bd_go hX
  refine k_X1_jobAt hx hb hml hown htg hK hW hS h1 q284 hl.1 (Nat.le_of_ble_eq_true rfl) (Nat.le_of_ble_eq_true rfl) (Nat.le_of_ble_eq_true rfl) ⟨Nat.zero_le _, Nat.zero_le _⟩ dX1_endMove_5 (fun H locs hW hS => ?_)
  refine lv_astore_n (lv' := [(2, .ref (gA G 12 ↑r2.1 ↑r2.2)), (0, .ref (gA G 2 ↑p0 0)), (1, .ref (gA G 0 ↑p1.1 ↑p1.2))]) hx hb dX1_endMove_8 rfl hl (by decide) rfl (fun ls hl => ?_)
  refine lv_aload_n hx hb dX1_endMove_9 rfl (lv_at hl 0 rfl) ?_
  refine lv_aload_n hx hb dX1_endMove_10 rfl (lv_at hl 2 rfl) ?_
  refine gf_0_4 hx hb htg hown hK hW p1 q646 dX1_endMove_11 ?_
  obtain ⟨r4, h3, hX⟩ := bd_go hX
  refine k_X5_zoneAt hx hb hml hown htg hK hW hS h3 q651 hl.1 (Nat.le_of_ble_eq_true rfl) (Nat.le_of_ble_eq_true rfl) (Nat.le_of_ble_eq_true rfl) ⟨Nat.zero_le _, Nat.zero_le _⟩ dX1_endMove_14 (fun H locs hW hS => ?_)
  refine lv_topi (fun x3_5 e9 => ?_)
  have hX := lt_go hX e9
  refine lv_istore_n (lv' := [(3, .int x3_5), (2, .ref (gA G 12 ↑r2.1 ↑r2.2)), (0, .ref (gA G 2 ↑p0 0)), (1, .ref (gA G 0 ↑p1.1 ↑p1.2))]) hx hb dX1_endMove_17 rfl hl (by decide) rfl (fun ls hl => ?_)
  refine lv_aload_n hx hb dX1_endMove_18 rfl (lv_at hl 3 rfl) ?_
  refine lv_aload_n hx hb dX1_endMove_19 rfl (lv_at hl 3 rfl) ?_
  refine gf_0_4 hx hb htg hown hK hW p1 q646 dX1_endMove_20 ?_
  refine lv_iconst (v := (1 : Int32)) hx hb dX1_endMove_23 (by decide) ?_
  refine lv_iadd hx hb dX1_endMove_24 ?_
  refine lv_aload_n hx hb dX1_endMove_25 rfl (lv_at hl 1 rfl) ?_
  refine lv_aload_n hx hb dX1_endMove_26 rfl (lv_at hl 3 rfl) ?_
  refine gf_0_4 hx hb htg hown hK hW p1 q646 dX1_endMove_27 ?_
  refine lv_iconst (v := (1 : Int32)) hx hb dX1_endMove_30 (by decide) ?_
  refine lv_iadd hx hb dX1_endMove_31 ?_
  obtain ⟨r7, h6, hX⟩ := bd_go hX
  refine k_X5_zoneAt hx hb hml hown htg hK hW hS h6 q651 hl.1 (Nat.le_of_ble_eq_true rfl) (Nat.le_of_ble_eq_true rfl) (Nat.le_of_ble_eq_true rfl) ⟨Nat.zero_le _, Nat.zero_le _⟩ dX1_endMove_32 (fun H locs hW hS => ?_)
  refine lv_aload_n hx hb dX1_endMove_35 rfl (lv_at hl 1 rfl) ?_
  refine gf_12_3 hx hb htg hown hK hW r2 q551 dX1_endMove_36 ?_
  obtain ⟨x10, h8, hX⟩ := bd_go hX
  refine k_X0_workAt hx hb hml hown htg hK hW hS h8 q706 hl.1 (Nat.le_of_ble_eq_true rfl) (Nat.le_of_ble_eq_true rfl) (Nat.le_of_ble_eq_true rfl) ⟨Nat.zero_le _, Nat.zero_le _⟩ dX1_endMove_39 (fun H locs hW hS => ?_)
  refine lv_aload_n hx hb dX1_endMove_42 rfl (lv_at hl 2 rfl) ?_
  refine gf_2_8 hx hb htg hown hK hW p0 q44 dX1_endMove_43 ?_
  refine lv_aload_n hx hb dX1_endMove_46 rfl (lv_at hl 2 rfl) ?_
  refine gf_2_0 hx hb htg hown hK hW p0 q239 dX1_endMove_47 ?_
  refine lv_aload_n hx hb dX1_endMove_50 rfl (lv_at hl 3 rfl) ?_
  refine gf_0_0 hx hb htg hown hK hW p1 q705 dX1_endMove_51 ?_
  refine lv_iconst (v := (2 : Int32)) hx hb dX1_endMove_54 (by decide) ?_
  refine lv_iload_n hx hb dX1_endMove_55 rfl (lv_at hl 0 rfl) ?_
  obtain ⟨x13, h11, hX⟩ := bd_go hX
  refine k_X7_add hx hb hml hown htg hK hW hS h11 q710 hl.1 (Nat.le_of_ble_eq_true rfl) (Nat.le_of_ble_eq_true rfl) (Nat.le_of_ble_eq_true rfl) ⟨Nat.zero_le _, Nat.zero_le _⟩ dX1_endMove_56 (fun H locs hW hS => ?_)
  have hX := Option.some.inj hX
  subst hX
  exact rt_v hx hb hr hlocks hW hS dX1_endMove_59
set_option maxHeartbeats 4000000 in
theorem k_X1_endMove {p : Program} {l : Launch} {e : Env} {R : Room} {s : State} {m : MethodId} {args : Array Value} {below : List Frame} {meth : Method} {c : Code} {H : Heap} {locs : List Loc} {cells slots : Nat} {Q : State → Prop} {cc : ByteArray} {pc nL idx : Nat} {own : String} {ls : Array Slot} {rest : List Value} {G : Geo} {x y : Mem} {H0 : Heap} {p0 : Fin 10} {p1 : Fin 10 × Fin 4} {z : Mem} (hx : p.tables.exec = Jvm.exec) (hb : c.code = cc) (hml : c.maxLocals = nL) (hown : s.vm.findClass own = some m.cls) (htg : ∀ w ∈ wsG, w.before args s = true) (hK : Kt G s) (hW : Wh G x y H) (hS : va_S (gF G) H0 H locs) (h : m_X1_endMove p0 p1 x = some z) (hlk : Cond.methodLink own idx yX1_endMove ∈ wsG) (hn : ls.size = nL) (hr : (rest.map fun v => v.category).sum ≤ 8) (hR1 : 1 + 1 ≤ R.frames) (hR2 : 8 + (4 + 11) + 25 ≤ R.locals) (hf : cells ≤ R.cells ∧ slots ≤ R.slots) (hdg : decode cc pc = .ok (.invokevirtual idx, 3)) (kk : ∀ (H1 : Heap) (locs1 : List Loc), Wh G z y H1 → va_S (gF G) H0 H1 locs1 → W p l e R s m args below meth c H1 locs1 cells slots Q (F0 m (pc + 3) ls (rest))) : W p l e R s m args below meth c H locs cells slots Q (F0 m pc ls (.ref (gA G 0 ↑p1.1 ↑p1.2) :: .ref (gA G 2 ↑p0 0) :: rest)) := by
  refine va_callv (va_runV (As := [.ref (gA G 0 ↑p1.1 ↑p1.2)]) (rest := rest) ⟨hx, hb, hml, hown, htg⟩ (c_X1_endMove l G x y p0 p1 z h) (cwV 1 htg (gd_V hlk q702 q703 q16 q704) rfl rfl rfl (by decide +kernel) ⟨hR1, hR2⟩) ⟨fun a U g mk q => ⟨q.1, q.2.1.calling, q.2.2⟩, rc_2 hK hW p0, fun U hU hW9 => ⟨rfl, hK.warm hW9, by rw [hU]; exact hW⟩⟩ rfl rfl hn rfl (lv_room hr) hdg hf) hS (fun _ _ h9 => h9) (fun _ h9 => h9) ?_
  intro u t H1 locs1 ht hvm hw hB hz1 hk1 hS1
  replace hB : Wh G z y t.heap := hB
  rw [ht] at hB
  exact kk H1 locs1 hB hS1
/-! METHOD X11_isWithin -/
def m_X11_isWithin (p0 : Int32) (p1 : Int32) (p2 : Int32) : Option Int32 :=
  if p0 < p1 then (some (0 : Int32)) else (if p2 < p0 then (some (0 : Int32)) else (some (1 : Int32)))
abbrev WS_X11_isWithin : List Cond := .code yX11_isWithin cX11_isWithin 3 (some .boolean) :: wsG
abbrev RM_X11_isWithin : Room := { frames := 0, cells := 0, slots := 0, locals := 0 }
set_option maxHeartbeats 4000000 in
set_option maxRecDepth 100000 in
theorem c_X11_isWithin (l : Launch) (G : Geo) (x y : Mem) (p0 : Int32) (p1 : Int32) (p2 : Int32) (r : Int32) (h : m_X11_isWithin p0 p1 p2 = some r) : Met l yX11_isWithin WS_X11_isWithin RM_X11_isWithin (Pw G x y [.int p0, .int p1, .int p2]) (Qi G x y r) 0 0 (gF G) := by
  refine Met.ofW (cc := cX11_isWithin) (maxL := 3) (ret := (some .boolean)) (by decide) rfl ?_
  intro p e s m args below meth c s₁ B hml hv
  obtain ⟨rfl, hK, hW⟩ := hv
  have hx := B.exec
  have hb := B.bytes
  have hr := B.returns
  have hts := atoms_spec (ws := WS_X11_isWithin) B.pre
  have htg : ∀ w ∈ wsG, w.before _ s = true := fun w h => hts w (List.mem_cons_of_mem _ h)
  have hown : s.vm.findClass RX11 = some m.cls := findClass_of_methodNamed B.named
  have hlocks := B.notSynchronized
  have hS : va_S (gF G) s.heap s.heap [] := va_S.rf
  have hl := lv_entry ([.int p0, .int p1, .int p2]) (n := 3) (Nat.le_of_ble_eq_true rfl)
  rw [lg_entry_eq]
  generalize (lg_sl ([.int p0, .int p1, .int p2]) ++ List.replicate (3 - (lg_sl ([.int p0, .int p1, .int p2])).length) Slot.unset).toArray = ls at hl ⊢
  have hl : lv_has ls 3 [(0, .int p0), (1, .int p1), (2, .int p2)] := hl
  have hX := h
  unfold m_X11_isWithin at hX
  refine lv_iload_n hx hb dX11_isWithin_0 rfl (lv_at hl 0 rfl) ?_
  refine lv_iload_n hx hb dX11_isWithin_1 rfl (lv_at hl 1 rfl) ?_
  refine lv_icmp_lt (tgt := 14) hx hb dX11_isWithin_2 (by decide) (fun c1 => ?_) (fun c1 => ?_)
  · have hX := it_t hX c1
    refine lv_iconst (v := (0 : Int32)) hx hb dX11_isWithin_14 (by decide) ?_
    have hX := Option.some.inj hX
    subst hX
    exact rt_z hx hb hr hlocks hW hS nb0 dX11_isWithin_15
  · have hX := it_f hX c1
    refine lv_iload_n hx hb dX11_isWithin_5 rfl (lv_at hl 0 rfl) ?_
    refine lv_iload_n hx hb dX11_isWithin_6 rfl (lv_at hl 2 rfl) ?_
    refine lv_icmp_gt (tgt := 14) hx hb dX11_isWithin_7 (by decide) (fun c2 => ?_) (fun c2 => ?_)
    · have hX := it_t hX c2
      refine lv_iconst (v := (0 : Int32)) hx hb dX11_isWithin_14 (by decide) ?_
      have hX := Option.some.inj hX
      subst hX
      exact rt_z hx hb hr hlocks hW hS nb0 dX11_isWithin_15
    · have hX := it_f hX c2
      refine lv_iconst (v := (1 : Int32)) hx hb dX11_isWithin_10 (by decide) ?_
      refine lv_goto (tgt := 15) hx hb dX11_isWithin_11 (by decide) ?_
      have hX := Option.some.inj hX
      subst hX
      exact rt_z hx hb hr hlocks hW hS nb1 dX11_isWithin_15
set_option maxHeartbeats 4000000 in
theorem k_X11_isWithin {p : Program} {l : Launch} {e : Env} {R : Room} {s : State} {m : MethodId} {args : Array Value} {below : List Frame} {meth : Method} {c : Code} {H : Heap} {locs : List Loc} {cells slots : Nat} {Q : State → Prop} {cc : ByteArray} {pc nL idx : Nat} {own : String} {ls : Array Slot} {rest : List Value} {G : Geo} {x y : Mem} {H0 : Heap} {p0 : Int32} {p1 : Int32} {p2 : Int32} {v : Int32} (hx : p.tables.exec = Jvm.exec) (hb : c.code = cc) (hml : c.maxLocals = nL) (hown : s.vm.findClass own = some m.cls) (htg : ∀ w ∈ wsG, w.before args s = true) (hK : Kt G s) (hW : Wh G x y H) (hS : va_S (gF G) H0 H locs) (h : m_X11_isWithin p0 p1 p2 = some v) (hlk : Cond.methodLink own idx yX11_isWithin ∈ wsG) (hn : ls.size = nL) (hr : (rest.map fun v => v.category).sum ≤ 8) (hR1 : 0 + 1 ≤ R.frames) (hR2 : 8 + (3 + 11) + 0 ≤ R.locals) (hf : cells ≤ R.cells ∧ slots ≤ R.slots) (hdg : decode cc pc = .ok (.invokestatic idx, 3)) (kk : ∀ (H1 : Heap) (locs1 : List Loc), Wh G x y H1 → va_S (gF G) H0 H1 locs1 → W p l e R s m args below meth c H1 locs1 cells slots Q (F0 m (pc + 3) ls (.int v :: rest))) : W p l e R s m args below meth c H locs cells slots Q (F0 m pc ls (.int p2 :: .int p1 :: .int p0 :: rest)) := by
  refine va_calli (va_runS (As := [.int p0, .int p1, .int p2]) (rest := rest) ⟨hx, hb, hml, hown, htg⟩ (c_X11_isWithin l G x y p0 p1 p2 v h) (va_cwS 3 htg (gd_S hlk q195 q2 q196) rfl rfl rfl (by decide +kernel) ⟨hR1, hR2⟩) ⟨fun a U g mk q => ⟨q.1, q.2.1.calling, q.2.2⟩, fun U hU hW9 => ⟨rfl, hK.warm hW9, by rw [hU]; exact hW⟩⟩ rfl rfl hn rfl (lv_room hr) hdg hf) hS (fun _ _ h9 => h9) (fun _ h9 => h9) ?_
  intro r9 u t H1 locs1 ht hvm hw hB hz1 hk1 hS1
  replace hB : Wh G x y t.heap := hB
  rw [ht] at hB
  replace hw : r9 = v := hw
  subst hw
  exact kk H1 locs1 hB hS1
set_option maxHeartbeats 4000000 in
theorem k_X11_isWithin_n {p : Program} {l : Launch} {e : Env} {R : Room} {s : State} {m : MethodId} {args : Array Value} {below : List Frame} {meth : Method} {c : Code} {H : Heap} {locs : List Loc} {cells slots : Nat} {Q : State → Prop} {cc : ByteArray} {pc nL idx : Nat} {own : String} {ls : Array Slot} {rest : List Value} {G : Geo} {x y : Mem} {H0 : Heap} {p0 : Int32} {p1 : Int32} {p2 : Int32} {v : Int32} (hx : p.tables.exec = Jvm.exec) (hb : c.code = cc) (hml : c.maxLocals = nL) (hown : s.vm.findClass own = some m.cls) (htg : ∀ w ∈ wsG, w.before args s = true) (hK : Kt G s) (hW : Wh G x y H) (hS : va_S (gF G) H0 H locs) (h : m_X11_isWithin p0 p1 p2 = some v) (hlk : Cond.methodLinkNest own idx yX11_isWithin "RobotCell" ∈ nestW) (hn : ls.size = nL) (hr : (rest.map fun v => v.category).sum ≤ 8) (hR1 : 0 + 1 ≤ R.frames) (hR2 : 8 + (3 + 11) + 0 ≤ R.locals) (hf : cells ≤ R.cells ∧ slots ≤ R.slots) (hdg : decode cc pc = .ok (.invokestatic idx, 3)) (kk : ∀ (H1 : Heap) (locs1 : List Loc), Wh G x y H1 → va_S (gF G) H0 H1 locs1 → W p l e R s m args below meth c H1 locs1 cells slots Q (F0 m (pc + 3) ls (.int v :: rest))) : W p l e R s m args below meth c H locs cells slots Q (F0 m pc ls (.int p2 :: .int p1 :: .int p0 :: rest)) := by
  refine va_calli (va_runSN (As := [.int p0, .int p1, .int p2]) (rest := rest) ⟨hx, hb, hml, hown, htg⟩ (c_X11_isWithin l G x y p0 p1 p2 v h) ⟨va_cnB 3 htg (gd_N q196) rfl rfl rfl (hK.2 _ hlk) (htg _ q2) (by decide +kernel) ⟨hR1, hR2⟩, htg _ q195, trivial⟩ ⟨fun a U g mk q => ⟨q.1, q.2.1.calling, q.2.2⟩, fun U hU hW9 => ⟨rfl, hK.warm hW9, by rw [hU]; exact hW⟩⟩ rfl rfl hn rfl (lv_room hr) hdg hf) hS (fun _ _ h9 => h9) (fun _ h9 => h9) ?_
  intro r9 u t H1 locs1 ht hvm hw hB hz1 hk1 hS1
  replace hB : Wh G x y t.heap := hB
  rw [ht] at hB
  replace hw : r9 = v := hw
  subst hw
  exact kk H1 locs1 hB hS1
/-! METHOD X5_isPath -/
def m_X5_isPath_b19 (p0 : Int32) (k19 : Int32 → Int32 → Int32 → Option Int32) (x1 : Int32) (x2 : Int32) (x3 : Int32) : Option Int32 :=
  if (5 : Int32) ≤ x3 then (some (1 : Int32)) else (if x1 ≤ 0 then (some (1 : Int32)) else (lt_ (rem32 x1 (10 : Int32)) fun x4_8 => if x4_8 < (1 : Int32) then (some (0 : Int32)) else (if (8 : Int32) < x4_8 then (some (0 : Int32)) else (if x4_8 = x2 then (some (0 : Int32)) else (lt_ x4_8 fun x2_12 => lt_ (x1 / (10 : Int32)) fun x1_13 => lt_ (x3 + (1 : Int32)) fun x3_14 => k19 x1_13 x2_12 x3_14)))))
def m_X5_isPath_l19 (p0 : Int32) : Nat → Int32 → Int32 → Int32 → Option Int32
  | 0, _, _, _ => none
  | n + 1, x1, x2, x3 => m_X5_isPath_b19 p0 (m_X5_isPath_l19 p0 n) x1 x2 x3
def m_X5_isPath (p0 : Int32) : Option Int32 :=
  if p0 < (1 : Int32) then (some (0 : Int32)) else (if p0 ≤ (88888 : Int32) then (lt_ p0 fun x1_3 => lt_ (0 : Int32) fun x2_4 => lt_ (0 : Int32) fun x3_5 => m_X5_isPath_l19 p0 FU x1_3 x2_4 x3_5) else (some (0 : Int32)))
abbrev WS_X5_isPath : List Cond := .code yX5_isPath cX5_isPath 5 (some .boolean) :: wsG
abbrev RM_X5_isPath : Room := { frames := 0, cells := 0, slots := 0, locals := 0 }
set_option maxHeartbeats 4000000 in
set_option maxRecDepth 100000 in
theorem c_X5_isPath (l : Launch) (G : Geo) (x y : Mem) (p0 : Int32) (r : Int32) (h : m_X5_isPath p0 = some r) : Met l yX5_isPath WS_X5_isPath RM_X5_isPath (Pw G x y [.int p0]) (Qi G x y r) 0 0 (gF G) := by
  refine Met.ofW (cc := cX5_isPath) (maxL := 5) (ret := (some .boolean)) (by decide) rfl ?_
  intro p e s m args below meth c s₁ B hml hv
  obtain ⟨rfl, hK, hW⟩ := hv
  have hx := B.exec
  have hb := B.bytes
  have hr := B.returns
  have hts := atoms_spec (ws := WS_X5_isPath) B.pre
  have htg : ∀ w ∈ wsG, w.before _ s = true := fun w h => hts w (List.mem_cons_of_mem _ h)
  have hown : s.vm.findClass RX5 = some m.cls := findClass_of_methodNamed B.named
  have hlocks := B.notSynchronized
  have hS : va_S (gF G) s.heap s.heap [] := va_S.rf
  have hl := lv_entry ([.int p0]) (n := 5) (Nat.le_of_ble_eq_true rfl)
  rw [lg_entry_eq]
  generalize (lg_sl ([.int p0]) ++ List.replicate (5 - (lg_sl ([.int p0])).length) Slot.unset).toArray = ls at hl ⊢
  have hl : lv_has ls 5 [(0, .int p0)] := hl
  have hX := h
  unfold m_X5_isPath at hX
  have B_19 : ∀ (k19 : Int32 → Int32 → Int32 → Option Int32) (hk19 : ∀ (x1 : Int32) (x2 : Int32) (x3 : Int32) (H : Heap) (locs : List Loc) (ls : Array Slot), Wh G x y H → va_S (gF G) s.heap H locs → lv_has ls 5 [(1, .int x1), (2, .int x2), (3, .int x3)] → k19 x1 x2 x3 = some r → W p l e (headSpec WS_X5_isPath RM_X5_isPath).room s m ([.int p0] : List Value).toArray below meth c H locs 0 0 (MQ below (Qi G x y r) ([.int p0] : List Value).toArray s 0 0 (gF G)) (F0 m 19 ls [])), ∀ (x1 : Int32) (x2 : Int32) (x3 : Int32) (H : Heap) (locs : List Loc) (ls : Array Slot), Wh G x y H → va_S (gF G) s.heap H locs → lv_has ls 5 [(1, .int x1), (2, .int x2), (3, .int x3)] → m_X5_isPath_b19 p0 k19 x1 x2 x3 = some r → W p l e (headSpec WS_X5_isPath RM_X5_isPath).room s m ([.int p0] : List Value).toArray below meth c H locs 0 0 (MQ below (Qi G x y r) ([.int p0] : List Value).toArray s 0 0 (gF G)) (F0 m 19 ls []) := by
    intro k19 hk19 x1 x2 x3 H locs ls hW hS hl hX
    unfold m_X5_isPath_b19 at hX
    refine lv_iload_n hx hb dX5_isPath_19 rfl (lv_at hl 2 rfl) ?_
    refine lv_iconst (v := (5 : Int32)) hx hb dX5_isPath_20 (by decide) ?_
    refine lv_icmp_ge (tgt := 69) hx hb dX5_isPath_21 (by decide) (fun c6 => ?_) (fun c6 => ?_)
    · have hX := it_t hX c6
      refine lv_iconst (v := (1 : Int32)) hx hb dX5_isPath_69 (by decide) ?_
      have hX := Option.some.inj hX
      subst hX
      exact rt_z hx hb hr hlocks hW hS nb1 dX5_isPath_70
    · have hX := it_f hX c6
      refine lv_iload_n hx hb dX5_isPath_24 rfl (lv_at hl 0 rfl) ?_
      refine lv_if_le (tgt := 69) hx hb dX5_isPath_25 (by decide) (fun c7 => ?_) (fun c7 => ?_)
      · have hX := it_t hX c7
        refine lv_iconst (v := (1 : Int32)) hx hb dX5_isPath_69 (by decide) ?_
        have hX := Option.some.inj hX
        subst hX
        exact rt_z hx hb hr hlocks hW hS nb1 dX5_isPath_70
      · have hX := it_f hX c7
        refine lv_iload_n hx hb dX5_isPath_28 rfl (lv_at hl 0 rfl) ?_
        refine lv_bipush (v := (10 : Int32)) hx hb dX5_isPath_29 (by decide) ?_
        refine lv_irem_ hx hb dX5_isPath_31 (by decide) ?_
        refine lv_topi (fun x4_8 e9 => ?_)
        have hX := lt_go hX e9
        refine lv_istore (lv' := [(4, .int x4_8), (1, .int x1), (2, .int x2), (3, .int x3)]) hx hb dX5_isPath_32 hl (by decide) rfl (fun ls hl => ?_)
        refine lv_iload hx hb dX5_isPath_34 (lv_at hl 0 rfl) ?_
        refine lv_iconst (v := (1 : Int32)) hx hb dX5_isPath_36 (by decide) ?_
        refine lv_icmp_lt (tgt := 53) hx hb dX5_isPath_37 (by decide) (fun c9 => ?_) (fun c9 => ?_)
        · have hX := it_t hX c9
          refine lv_iconst (v := (0 : Int32)) hx hb dX5_isPath_53 (by decide) ?_
          have hX := Option.some.inj hX
          subst hX
          exact rt_z hx hb hr hlocks hW hS nb0 dX5_isPath_54
        · have hX := it_f hX c9
          refine lv_iload hx hb dX5_isPath_40 (lv_at hl 0 rfl) ?_
          refine lv_bipush (v := (8 : Int32)) hx hb dX5_isPath_42 (by decide) ?_
          refine lv_icmp_gt (tgt := 53) hx hb dX5_isPath_44 (by decide) (fun c10 => ?_) (fun c10 => ?_)
          · have hX := it_t hX c10
            refine lv_iconst (v := (0 : Int32)) hx hb dX5_isPath_53 (by decide) ?_
            have hX := Option.some.inj hX
            subst hX
            exact rt_z hx hb hr hlocks hW hS nb0 dX5_isPath_54
          · have hX := it_f hX c10
            refine lv_iload hx hb dX5_isPath_47 (lv_at hl 0 rfl) ?_
            refine lv_iload_n hx hb dX5_isPath_49 rfl (lv_at hl 2 rfl) ?_
            refine lv_icmp_ne (tgt := 55) hx hb dX5_isPath_50 (by decide) (fun c11 => ?_) (fun c11 => ?_)
            · have hX := it_f hX c11
              refine lv_iload hx hb dX5_isPath_55 (lv_at hl 0 rfl) ?_
              refine lv_topi (fun x2_12 e9 => ?_)
              have hX := lt_go hX e9
              refine lv_istore_n (lv' := [(2, .int x2_12), (4, .int x4_8), (1, .int x1), (3, .int x3)]) hx hb dX5_isPath_57 rfl hl (by decide) rfl (fun ls hl => ?_)
              refine lv_iload_n hx hb dX5_isPath_58 rfl (lv_at hl 2 rfl) ?_
              refine lv_bipush (v := (10 : Int32)) hx hb dX5_isPath_59 (by decide) ?_
              refine lv_idiv hx hb dX5_isPath_61 (by decide) ?_
              refine lv_topi (fun x1_13 e9 => ?_)
              have hX := lt_go hX e9
              refine lv_istore_n (lv' := [(1, .int x1_13), (2, .int x2_12), (4, .int x4_8), (3, .int x3)]) hx hb dX5_isPath_62 rfl hl (by decide) rfl (fun ls hl => ?_)
              obtain ⟨x3_14, e9⟩ : ∃ w : Int32, w = (x3 + (1 : Int32)) := ⟨_, rfl⟩
              have hX := lt_go hX e9
              refine lv_iinc (v := x3_14) (lv' := [(3, .int x3_14), (1, .int x1_13), (2, .int x2_12), (4, .int x4_8)]) hx hb dX5_isPath_63 hl (k := 3) rfl (by rw [e9]; rfl) (by decide) rfl (fun ls hl => ?_)
              refine lv_goto (tgt := 19) hx hb dX5_isPath_66 (by decide) ?_
              exact hk19 _ _ _ _ _ _ hW hS (lv_sub hl [1, 2, 0] rfl) hX
            · have hX := it_t hX c11
              refine lv_iconst (v := (0 : Int32)) hx hb dX5_isPath_53 (by decide) ?_
              have hX := Option.some.inj hX
              subst hX
              exact rt_z hx hb hr hlocks hW hS nb0 dX5_isPath_54
  have L_19 : ∀ (n : Nat), ∀ (x1 : Int32) (x2 : Int32) (x3 : Int32) (H : Heap) (locs : List Loc) (ls : Array Slot), Wh G x y H → va_S (gF G) s.heap H locs → lv_has ls 5 [(1, .int x1), (2, .int x2), (3, .int x3)] → m_X5_isPath_l19 p0 n x1 x2 x3 = some r → W p l e (headSpec WS_X5_isPath RM_X5_isPath).room s m ([.int p0] : List Value).toArray below meth c H locs 0 0 (MQ below (Qi G x y r) ([.int p0] : List Value).toArray s 0 0 (gF G)) (F0 m 19 ls []) := by
    intro n
    induction n with
    | zero => intro x1 x2 x3 H locs ls hW hS hl hX; exact no_go hX
    | succ n ih => intro x1 x2 x3 H locs ls hW hS hl hX; exact B_19 _ ih _ _ _ _ _ _ hW hS hl hX
  refine lv_iload_n hx hb dX5_isPath_0 rfl (lv_at hl 0 rfl) ?_
  refine lv_iconst (v := (1 : Int32)) hx hb dX5_isPath_1 (by decide) ?_
  refine lv_icmp_lt (tgt := 11) hx hb dX5_isPath_2 (by decide) (fun c1 => ?_) (fun c1 => ?_)
  · have hX := it_t hX c1
    refine lv_iconst (v := (0 : Int32)) hx hb dX5_isPath_11 (by decide) ?_
    have hX := Option.some.inj hX
    subst hX
    exact rt_z hx hb hr hlocks hW hS nb0 dX5_isPath_12
  · have hX := it_f hX c1
    refine lv_iload_n hx hb dX5_isPath_5 rfl (lv_at hl 0 rfl) ?_
    refine lv_ldc (v := (88888 : Int32)) hx hb hown (htg _ q543) dX5_isPath_6 ?_
    refine lv_icmp_le (tgt := 13) hx hb dX5_isPath_8 (by decide) (fun c2 => ?_) (fun c2 => ?_)
    · have hX := it_t hX c2
      refine lv_iload_n hx hb dX5_isPath_13 rfl (lv_at hl 0 rfl) ?_
      refine lv_topi (fun x1_3 e9 => ?_)
      have hX := lt_go hX e9
      refine lv_istore_n (lv' := [(1, .int x1_3), (0, .int p0)]) hx hb dX5_isPath_14 rfl hl (by decide) rfl (fun ls hl => ?_)
      refine lv_iconst (v := (0 : Int32)) hx hb dX5_isPath_15 (by decide) ?_
      refine lv_topi (fun x2_4 e9 => ?_)
      have hX := lt_go hX e9
      refine lv_istore_n (lv' := [(2, .int x2_4), (1, .int x1_3), (0, .int p0)]) hx hb dX5_isPath_16 rfl hl (by decide) rfl (fun ls hl => ?_)
      refine lv_iconst (v := (0 : Int32)) hx hb dX5_isPath_17 (by decide) ?_
      refine lv_topi (fun x3_5 e9 => ?_)
      have hX := lt_go hX e9
      refine lv_istore_n (lv' := [(3, .int x3_5), (2, .int x2_4), (1, .int x1_3), (0, .int p0)]) hx hb dX5_isPath_18 rfl hl (by decide) rfl (fun ls hl => ?_)
      exact L_19 FU _ _ _ _ _ _ hW hS (lv_sub hl [2, 1, 0] rfl) hX
    · have hX := it_f hX c2
      refine lv_iconst (v := (0 : Int32)) hx hb dX5_isPath_11 (by decide) ?_
      have hX := Option.some.inj hX
      subst hX
      exact rt_z hx hb hr hlocks hW hS nb0 dX5_isPath_12
set_option maxHeartbeats 4000000 in
theorem k_X5_isPath {p : Program} {l : Launch} {e : Env} {R : Room} {s : State} {m : MethodId} {args : Array Value} {below : List Frame} {meth : Method} {c : Code} {H : Heap} {locs : List Loc} {cells slots : Nat} {Q : State → Prop} {cc : ByteArray} {pc nL idx : Nat} {own : String} {ls : Array Slot} {rest : List Value} {G : Geo} {x y : Mem} {H0 : Heap} {p0 : Int32} {v : Int32} (hx : p.tables.exec = Jvm.exec) (hb : c.code = cc) (hml : c.maxLocals = nL) (hown : s.vm.findClass own = some m.cls) (htg : ∀ w ∈ wsG, w.before args s = true) (hK : Kt G s) (hW : Wh G x y H) (hS : va_S (gF G) H0 H locs) (h : m_X5_isPath p0 = some v) (hlk : Cond.methodLink own idx yX5_isPath ∈ wsG) (hn : ls.size = nL) (hr : (rest.map fun v => v.category).sum ≤ 8) (hR1 : 0 + 1 ≤ R.frames) (hR2 : 8 + (5 + 11) + 0 ≤ R.locals) (hf : cells ≤ R.cells ∧ slots ≤ R.slots) (hdg : decode cc pc = .ok (.invokestatic idx, 3)) (kk : ∀ (H1 : Heap) (locs1 : List Loc), Wh G x y H1 → va_S (gF G) H0 H1 locs1 → W p l e R s m args below meth c H1 locs1 cells slots Q (F0 m (pc + 3) ls (.int v :: rest))) : W p l e R s m args below meth c H locs cells slots Q (F0 m pc ls (.int p0 :: rest)) := by
  refine va_calli (va_runS (As := [.int p0]) (rest := rest) ⟨hx, hb, hml, hown, htg⟩ (c_X5_isPath l G x y p0 v h) (va_cwS 1 htg (gd_S hlk q541 q55 q542) rfl rfl rfl (by decide +kernel) ⟨hR1, hR2⟩) ⟨fun a U g mk q => ⟨q.1, q.2.1.calling, q.2.2⟩, fun U hU hW9 => ⟨rfl, hK.warm hW9, by rw [hU]; exact hW⟩⟩ rfl rfl hn rfl (lv_room hr) hdg hf) hS (fun _ _ h9 => h9) (fun _ h9 => h9) ?_
  intro r9 u t H1 locs1 ht hvm hw hB hz1 hk1 hS1
  replace hB : Wh G x y t.heap := hB
  rw [ht] at hB
  replace hw : r9 = v := hw
  subst hw
  exact kk H1 locs1 hB hS1
/-! METHOD X1_giveFault -/
def m_X1_giveFault_j118 (p0 : Fin 10) (p1 : Int32) (p2 : Int32) (p3 : Int32) (p4 : Int32) (p5 : Int32) (p6 : Int32) (x : Mem) : Option Int32 :=
  if (30 : Int32) ≤ (x 2 ↑p0 0 1) then (some (4 : Int32)) else (some (0 : Int32))
def m_X1_giveFault_b77 (p0 : Fin 10) (p1 : Int32) (p2 : Int32) (p3 : Int32) (p4 : Int32) (p5 : Int32) (p6 : Int32) (k77 : Int32 → Int32 → Int32 → Mem → Option Int32) (x7 : Int32) (x8 : Int32) (x9 : Int32) (x : Mem) : Option Int32 :=
  if (5 : Int32) ≤ x9 then (m_X1_giveFault_j118 p0 p1 p2 p3 p4 p5 p6 x) else (if x8 ≤ 0 then (m_X1_giveFault_j118 p0 p1 p2 p3 p4 p5 p6 x) else (if (x7 &&& (shl32 (1 : Int32) ((rem32 x8 (10 : Int32)) - (1 : Int32)))) = 0 then (some (3 : Int32)) else (lt_ (x8 / (10 : Int32)) fun x8_27 => lt_ (x9 + (1 : Int32)) fun x9_28 => k77 x7 x8_27 x9_28 x)))
def m_X1_giveFault_l77 (p0 : Fin 10) (p1 : Int32) (p2 : Int32) (p3 : Int32) (p4 : Int32) (p5 : Int32) (p6 : Int32) : Nat → Int32 → Int32 → Int32 → Mem → Option Int32
  | 0, _, _, _, _ => none
  | n + 1, x7, x8, x9, x => m_X1_giveFault_b77 p0 p1 p2 p3 p4 p5 p6 (m_X1_giveFault_l77 p0 p1 p2 p3 p4 p5 p6 n) x7 x8 x9 x
def m_X1_giveFault (p0 : Fin 10) (p1 : Int32) (p2 : Int32) (p3 : Int32) (p4 : Int32) (p5 : Int32) (p6 : Int32) (x : Mem) : Option Int32 :=
  bd_ (m_X11_isWithin p1 (0 : Int32) (2 : Int32)) fun r2 => if r2 = 0 then (some (1 : Int32)) else (bd_ (m_X11_isWithin p5 (-1 : Int32) (2 : Int32)) fun r5 => if r5 = 0 then (some (1 : Int32)) else (bd_ (m_X11_isWithin p6 (-1 : Int32) (2 : Int32)) fun r8 => if r8 = 0 then (some (1 : Int32)) else (bd_ (m_X5_isPath p2) fun r11 => if r11 = 0 then (some (2 : Int32)) else (bd_ (m_X11_isWithin p3 (1 : Int32) (9 : Int32)) fun r14 => if r14 = 0 then (some (2 : Int32)) else (bd_ (m_X11_isWithin p4 (0 : Int32) (9 : Int32)) fun r17 => if r17 = 0 then (some (2 : Int32)) else (bd_ (m_X1_armAt p0 p1) fun r20 => lt_ (x 0 ↑r20.1 ↑r20.2 1) fun x7_21 => lt_ p2 fun x8_22 => lt_ (0 : Int32) fun x9_23 => m_X1_giveFault_l77 p0 p1 p2 p3 p4 p5 p6 FU x7_21 x8_22 x9_23 x))))))
abbrev WS_X1_giveFault : List Cond := .code yX1_giveFault cX1_giveFault 10 (some .int) :: wsG
abbrev RM_X1_giveFault : Room := { frames := 1, cells := 0, slots := 0, locals := 24 }
set_option maxHeartbeats 4000000 in
set_option maxRecDepth 100000 in
theorem c_X1_giveFault (l : Launch) (G : Geo) (x y : Mem) (p0 : Fin 10) (p1 : Int32) (p2 : Int32) (p3 : Int32) (p4 : Int32) (p5 : Int32) (p6 : Int32) (r : Int32) (h : m_X1_giveFault p0 p1 p2 p3 p4 p5 p6 x = some r) : Met l yX1_giveFault WS_X1_giveFault RM_X1_giveFault (Pw G x y [.ref (gA G 2 ↑p0 0), .int p1, .int p2, .int p3, .int p4, .int p5, .int p6]) (Qi G x y r) 0 0 (gF G) := by
  refine Met.ofW (cc := cX1_giveFault) (maxL := 10) (ret := (some .int)) (by decide) rfl ?_
  intro p e s m args below meth c s₁ B hml hv
  obtain ⟨rfl, hK, hW⟩ := hv
  have hx := B.exec
  have hb := B.bytes
  have hr := B.returns
  have hts := atoms_spec (ws := WS_X1_giveFault) B.pre
  have htg : ∀ w ∈ wsG, w.before _ s = true := fun w h => hts w (List.mem_cons_of_mem _ h)
  have hown : s.vm.findClass RX1 = some m.cls := findClass_of_methodNamed B.named
  have hlocks := B.notSynchronized
  have hS : va_S (gF G) s.heap s.heap [] := va_S.rf
  have hl := lv_entry ([.ref (gA G 2 ↑p0 0), .int p1, .int p2, .int p3, .int p4, .int p5, .int p6]) (n := 10) (Nat.le_of_ble_eq_true rfl)
  rw [lg_entry_eq]
  generalize (lg_sl ([.ref (gA G 2 ↑p0 0), .int p1, .int p2, .int p3, .int p4, .int p5, .int p6]) ++ List.replicate (10 - (lg_sl ([.ref (gA G 2 ↑p0 0), .int p1, .int p2, .int p3, .int p4, .int p5, .int p6])).length) Slot.unset).toArray = ls at hl ⊢
  have hl : lv_has ls 10 [(0, .ref (gA G 2 ↑p0 0)), (1, .int p1), (2, .int p2), (3, .int p3), (4, .int p4), (5, .int p5), (6, .int p6)] := hl
  have hX := h
  unfold m_X1_giveFault at hX
  have J_118 : ∀ (x : Mem) (H : Heap) (locs : List Loc) (ls : Array Slot), Wh G x y H → va_S (gF G) s.heap H locs → lv_has ls 10 [(0, .ref (gA G 2 ↑p0 0))] → m_X1_giveFault_j118 p0 p1 p2 p3 p4 p5 p6 x = some r → W p l e (headSpec WS_X1_giveFault RM_X1_giveFault).room s m ([.ref (gA G 2 ↑p0 0), .int p1, .int p2, .int p3, .int p4, .int p5, .int p6] : List Value).toArray below meth c H locs 0 0 (MQ below (Qi G x y r) ([.ref (gA G 2 ↑p0 0), .int p1, .int p2, .int p3, .int p4, .int p5, .int p6] : List Value).toArray s 0 0 (gF G)) (F0 m 118 ls []) := by
    intro x H locs ls hW hS hl hX
    unfold m_X1_giveFault_j118 at hX
    refine lv_aload_n hx hb dX1_giveFault_118 rfl (lv_at hl 0 rfl) ?_
    refine gf_2_1 hx hb htg hown hK hW p0 q240 dX1_giveFault_119 ?_
    refine lv_bipush (v := (30 : Int32)) hx hb dX1_giveFault_122 (by decide) ?_
    refine lv_icmp_ge (tgt := 131) hx hb dX1_giveFault_124 (by decide) (fun c29 => ?_) (fun c29 => ?_)
    · have hX := it_t hX c29
      refine lv_iconst (v := (4 : Int32)) hx hb dX1_giveFault_131 (by decide) ?_
      have hX := Option.some.inj hX
      subst hX
      exact rt_i hx hb hr hlocks hW hS dX1_giveFault_132
    · have hX := it_f hX c29
      refine lv_iconst (v := (0 : Int32)) hx hb dX1_giveFault_127 (by decide) ?_
      refine lv_goto (tgt := 132) hx hb dX1_giveFault_128 (by decide) ?_
      have hX := Option.some.inj hX
      subst hX
      exact rt_i hx hb hr hlocks hW hS dX1_giveFault_132
  have B_77 : ∀ (k77 : Int32 → Int32 → Int32 → Mem → Option Int32) (hk77 : ∀ (x7 : Int32) (x8 : Int32) (x9 : Int32) (x : Mem) (H : Heap) (locs : List Loc) (ls : Array Slot), Wh G x y H → va_S (gF G) s.heap H locs → lv_has ls 10 [(0, .ref (gA G 2 ↑p0 0)), (7, .int x7), (8, .int x8), (9, .int x9)] → k77 x7 x8 x9 x = some r → W p l e (headSpec WS_X1_giveFault RM_X1_giveFault).room s m ([.ref (gA G 2 ↑p0 0), .int p1, .int p2, .int p3, .int p4, .int p5, .int p6] : List Value).toArray below meth c H locs 0 0 (MQ below (Qi G x y r) ([.ref (gA G 2 ↑p0 0), .int p1, .int p2, .int p3, .int p4, .int p5, .int p6] : List Value).toArray s 0 0 (gF G)) (F0 m 77 ls [])), ∀ (x7 : Int32) (x8 : Int32) (x9 : Int32) (x : Mem) (H : Heap) (locs : List Loc) (ls : Array Slot), Wh G x y H → va_S (gF G) s.heap H locs → lv_has ls 10 [(0, .ref (gA G 2 ↑p0 0)), (7, .int x7), (8, .int x8), (9, .int x9)] → m_X1_giveFault_b77 p0 p1 p2 p3 p4 p5 p6 k77 x7 x8 x9 x = some r → W p l e (headSpec WS_X1_giveFault RM_X1_giveFault).room s m ([.ref (gA G 2 ↑p0 0), .int p1, .int p2, .int p3, .int p4, .int p5, .int p6] : List Value).toArray below meth c H locs 0 0 (MQ below (Qi G x y r) ([.ref (gA G 2 ↑p0 0), .int p1, .int p2, .int p3, .int p4, .int p5, .int p6] : List Value).toArray s 0 0 (gF G)) (F0 m 77 ls []) := by
    intro k77 hk77 x7 x8 x9 x H locs ls hW hS hl hX
    unfold m_X1_giveFault_b77 at hX
    refine lv_iload hx hb dX1_giveFault_77 (lv_at hl 3 rfl) ?_
    refine lv_iconst (v := (5 : Int32)) hx hb dX1_giveFault_79 (by decide) ?_
    refine lv_icmp_ge (tgt := 118) hx hb dX1_giveFault_80 (by decide) (fun c24 => ?_) (fun c24 => ?_)
    · have hX := it_t hX c24
      exact J_118 _ _ _ _ hW hS (lv_sub hl [0] rfl) hX
    · have hX := it_f hX c24
      refine lv_iload hx hb dX1_giveFault_83 (lv_at hl 2 rfl) ?_
      refine lv_if_le (tgt := 118) hx hb dX1_giveFault_85 (by decide) (fun c25 => ?_) (fun c25 => ?_)
      · have hX := it_t hX c25
        exact J_118 _ _ _ _ hW hS (lv_sub hl [0] rfl) hX
      · have hX := it_f hX c25
        refine lv_iload hx hb dX1_giveFault_88 (lv_at hl 1 rfl) ?_
        refine lv_iconst (v := (1 : Int32)) hx hb dX1_giveFault_90 (by decide) ?_
        refine lv_iload hx hb dX1_giveFault_91 (lv_at hl 2 rfl) ?_
        refine lv_bipush (v := (10 : Int32)) hx hb dX1_giveFault_93 (by decide) ?_
        refine lv_irem_ hx hb dX1_giveFault_95 (by decide) ?_
        refine lv_iconst (v := (1 : Int32)) hx hb dX1_giveFault_96 (by decide) ?_
        refine lv_isub hx hb dX1_giveFault_97 ?_
        refine lv_ishl_ hx hb dX1_giveFault_98 ?_
        refine lv_iand hx hb dX1_giveFault_99 ?_
        refine lv_if_ne (tgt := 105) hx hb dX1_giveFault_100 (by decide) (fun c26 => ?_) (fun c26 => ?_)
        · have hX := it_f hX c26
          refine lv_iload hx hb dX1_giveFault_105 (lv_at hl 2 rfl) ?_
          refine lv_bipush (v := (10 : Int32)) hx hb dX1_giveFault_107 (by decide) ?_
          refine lv_idiv hx hb dX1_giveFault_109 (by decide) ?_
          refine lv_topi (fun x8_27 e9 => ?_)
          have hX := lt_go hX e9
          refine lv_istore (lv' := [(8, .int x8_27), (0, .ref (gA G 2 ↑p0 0)), (7, .int x7), (9, .int x9)]) hx hb dX1_giveFault_110 hl (by decide) rfl (fun ls hl => ?_)
          obtain ⟨x9_28, e9⟩ : ∃ w : Int32, w = (x9 + (1 : Int32)) := ⟨_, rfl⟩
          have hX := lt_go hX e9
          refine lv_iinc (v := x9_28) (lv' := [(9, .int x9_28), (8, .int x8_27), (0, .ref (gA G 2 ↑p0 0)), (7, .int x7)]) hx hb dX1_giveFault_112 hl (k := 3) rfl (by rw [e9]; rfl) (by decide) rfl (fun ls hl => ?_)
          refine lv_goto (tgt := 77) hx hb dX1_giveFault_115 (by decide) ?_
          exact hk77 _ _ _ _ _ _ _ hW hS (lv_sub hl [2, 3, 1, 0] rfl) hX
        · have hX := it_t hX c26
          refine lv_iconst (v := (3 : Int32)) hx hb dX1_giveFault_103 (by decide) ?_
          have hX := Option.some.inj hX
          subst hX
          exact rt_i hx hb hr hlocks hW hS dX1_giveFault_104
  have L_77 : ∀ (n : Nat), ∀ (x7 : Int32) (x8 : Int32) (x9 : Int32) (x : Mem) (H : Heap) (locs : List Loc) (ls : Array Slot), Wh G x y H → va_S (gF G) s.heap H locs → lv_has ls 10 [(0, .ref (gA G 2 ↑p0 0)), (7, .int x7), (8, .int x8), (9, .int x9)] → m_X1_giveFault_l77 p0 p1 p2 p3 p4 p5 p6 n x7 x8 x9 x = some r → W p l e (headSpec WS_X1_giveFault RM_X1_giveFault).room s m ([.ref (gA G 2 ↑p0 0), .int p1, .int p2, .int p3, .int p4, .int p5, .int p6] : List Value).toArray below meth c H locs 0 0 (MQ below (Qi G x y r) ([.ref (gA G 2 ↑p0 0), .int p1, .int p2, .int p3, .int p4, .int p5, .int p6] : List Value).toArray s 0 0 (gF G)) (F0 m 77 ls []) := by
    intro n
    induction n with
    | zero => intro x7 x8 x9 x H locs ls hW hS hl hX; exact no_go hX
    | succ n ih => intro x7 x8 x9 x H locs ls hW hS hl hX; exact B_77 _ ih _ _ _ _ _ _ _ hW hS hl hX
  refine lv_iload_n hx hb dX1_giveFault_0 rfl (lv_at hl 1 rfl) ?_
  refine lv_iconst (v := (0 : Int32)) hx hb dX1_giveFault_1 (by decide) ?_
  refine lv_iconst (v := (2 : Int32)) hx hb dX1_giveFault_2 (by decide) ?_
  obtain ⟨r2, h1, hX⟩ := bd_go hX
  refine k_X11_isWithin_n hx hb hml hown htg hK hW hS h1 (List.mem_of_getElem? (i := 5) rfl) hl.1 (Nat.le_of_ble_eq_true rfl) (Nat.le_of_ble_eq_true rfl) (Nat.le_of_ble_eq_true rfl) ⟨Nat.zero_le _, Nat.zero_le _⟩ dX1_giveFault_3 (fun H locs hW hS => ?_)
  refine lv_if_eq (tgt := 29) hx hb dX1_giveFault_6 (by decide) (fun c3 => ?_) (fun c3 => ?_)
  · have hX := it_t hX c3
    refine lv_iconst (v := (1 : Int32)) hx hb dX1_giveFault_29 (by decide) ?_
    have hX := Option.some.inj hX
    subst hX
    exact rt_i hx hb hr hlocks hW hS dX1_giveFault_30
  · have hX := it_f hX c3
    refine lv_iload hx hb dX1_giveFault_9 (lv_at hl 5 rfl) ?_
    refine lv_iconst (v := (-1 : Int32)) hx hb dX1_giveFault_11 (by decide) ?_
    refine lv_iconst (v := (2 : Int32)) hx hb dX1_giveFault_12 (by decide) ?_
    obtain ⟨r5, h4, hX⟩ := bd_go hX
    refine k_X11_isWithin_n hx hb hml hown htg hK hW hS h4 (List.mem_of_getElem? (i := 5) rfl) hl.1 (Nat.le_of_ble_eq_true rfl) (Nat.le_of_ble_eq_true rfl) (Nat.le_of_ble_eq_true rfl) ⟨Nat.zero_le _, Nat.zero_le _⟩ dX1_giveFault_13 (fun H locs hW hS => ?_)
    refine lv_if_eq (tgt := 29) hx hb dX1_giveFault_16 (by decide) (fun c6 => ?_) (fun c6 => ?_)
    · have hX := it_t hX c6
      refine lv_iconst (v := (1 : Int32)) hx hb dX1_giveFault_29 (by decide) ?_
      have hX := Option.some.inj hX
      subst hX
      exact rt_i hx hb hr hlocks hW hS dX1_giveFault_30
    · have hX := it_f hX c6
      refine lv_iload hx hb dX1_giveFault_19 (lv_at hl 6 rfl) ?_
      refine lv_iconst (v := (-1 : Int32)) hx hb dX1_giveFault_21 (by decide) ?_
      refine lv_iconst (v := (2 : Int32)) hx hb dX1_giveFault_22 (by decide) ?_
      obtain ⟨r8, h7, hX⟩ := bd_go hX
      refine k_X11_isWithin_n hx hb hml hown htg hK hW hS h7 (List.mem_of_getElem? (i := 5) rfl) hl.1 (Nat.le_of_ble_eq_true rfl) (Nat.le_of_ble_eq_true rfl) (Nat.le_of_ble_eq_true rfl) ⟨Nat.zero_le _, Nat.zero_le _⟩ dX1_giveFault_23 (fun H locs hW hS => ?_)
      refine lv_if_ne (tgt := 31) hx hb dX1_giveFault_26 (by decide) (fun c9 => ?_) (fun c9 => ?_)
      · have hX := it_f hX c9
        refine lv_iload_n hx hb dX1_giveFault_31 rfl (lv_at hl 2 rfl) ?_
        obtain ⟨r11, h10, hX⟩ := bd_go hX
        refine k_X5_isPath hx hb hml hown htg hK hW hS h10 q540 hl.1 (Nat.le_of_ble_eq_true rfl) (Nat.le_of_ble_eq_true rfl) (Nat.le_of_ble_eq_true rfl) ⟨Nat.zero_le _, Nat.zero_le _⟩ dX1_giveFault_32 (fun H locs hW hS => ?_)
        refine lv_if_eq (tgt := 59) hx hb dX1_giveFault_35 (by decide) (fun c12 => ?_) (fun c12 => ?_)
        · have hX := it_t hX c12
          refine lv_iconst (v := (2 : Int32)) hx hb dX1_giveFault_59 (by decide) ?_
          have hX := Option.some.inj hX
          subst hX
          exact rt_i hx hb hr hlocks hW hS dX1_giveFault_60
        · have hX := it_f hX c12
          refine lv_iload_n hx hb dX1_giveFault_38 rfl (lv_at hl 3 rfl) ?_
          refine lv_iconst (v := (1 : Int32)) hx hb dX1_giveFault_39 (by decide) ?_
          refine lv_bipush (v := (9 : Int32)) hx hb dX1_giveFault_40 (by decide) ?_
          obtain ⟨r14, h13, hX⟩ := bd_go hX
          refine k_X11_isWithin_n hx hb hml hown htg hK hW hS h13 (List.mem_of_getElem? (i := 5) rfl) hl.1 (Nat.le_of_ble_eq_true rfl) (Nat.le_of_ble_eq_true rfl) (Nat.le_of_ble_eq_true rfl) ⟨Nat.zero_le _, Nat.zero_le _⟩ dX1_giveFault_42 (fun H locs hW hS => ?_)
          refine lv_if_eq (tgt := 59) hx hb dX1_giveFault_45 (by decide) (fun c15 => ?_) (fun c15 => ?_)
          · have hX := it_t hX c15
            refine lv_iconst (v := (2 : Int32)) hx hb dX1_giveFault_59 (by decide) ?_
            have hX := Option.some.inj hX
            subst hX
            exact rt_i hx hb hr hlocks hW hS dX1_giveFault_60
          · have hX := it_f hX c15
            refine lv_iload hx hb dX1_giveFault_48 (lv_at hl 4 rfl) ?_
            refine lv_iconst (v := (0 : Int32)) hx hb dX1_giveFault_50 (by decide) ?_
            refine lv_bipush (v := (9 : Int32)) hx hb dX1_giveFault_51 (by decide) ?_
            obtain ⟨r17, h16, hX⟩ := bd_go hX
            refine k_X11_isWithin_n hx hb hml hown htg hK hW hS h16 (List.mem_of_getElem? (i := 5) rfl) hl.1 (Nat.le_of_ble_eq_true rfl) (Nat.le_of_ble_eq_true rfl) (Nat.le_of_ble_eq_true rfl) ⟨Nat.zero_le _, Nat.zero_le _⟩ dX1_giveFault_53 (fun H locs hW hS => ?_)
            refine lv_if_ne (tgt := 61) hx hb dX1_giveFault_56 (by decide) (fun c18 => ?_) (fun c18 => ?_)
            · have hX := it_f hX c18
              refine lv_aload_n hx hb dX1_giveFault_61 rfl (lv_at hl 0 rfl) ?_
              refine lv_iload_n hx hb dX1_giveFault_62 rfl (lv_at hl 1 rfl) ?_
              obtain ⟨r20, h19, hX⟩ := bd_go hX
              refine k_X1_armAt hx hb hml hown htg hK hW hS h19 q210 hl.1 (Nat.le_of_ble_eq_true rfl) (Nat.le_of_ble_eq_true rfl) (Nat.le_of_ble_eq_true rfl) ⟨Nat.zero_le _, Nat.zero_le _⟩ dX1_giveFault_63 (fun H locs hW hS => ?_)
              refine gf_0_1 hx hb htg hown hK hW r20 q477 dX1_giveFault_66 ?_
              refine lv_topi (fun x7_21 e9 => ?_)
              have hX := lt_go hX e9
              refine lv_istore (lv' := [(7, .int x7_21), (0, .ref (gA G 2 ↑p0 0)), (1, .int p1), (2, .int p2), (3, .int p3), (4, .int p4), (5, .int p5), (6, .int p6)]) hx hb dX1_giveFault_69 hl (by decide) rfl (fun ls hl => ?_)
              refine lv_iload_n hx hb dX1_giveFault_71 rfl (lv_at hl 3 rfl) ?_
              refine lv_topi (fun x8_22 e9 => ?_)
              have hX := lt_go hX e9
              refine lv_istore (lv' := [(8, .int x8_22), (7, .int x7_21), (0, .ref (gA G 2 ↑p0 0)), (1, .int p1), (2, .int p2), (3, .int p3), (4, .int p4), (5, .int p5), (6, .int p6)]) hx hb dX1_giveFault_72 hl (by decide) rfl (fun ls hl => ?_)
              refine lv_iconst (v := (0 : Int32)) hx hb dX1_giveFault_74 (by decide) ?_
              refine lv_topi (fun x9_23 e9 => ?_)
              have hX := lt_go hX e9
              refine lv_istore (lv' := [(9, .int x9_23), (8, .int x8_22), (7, .int x7_21), (0, .ref (gA G 2 ↑p0 0)), (1, .int p1), (2, .int p2), (3, .int p3), (4, .int p4), (5, .int p5), (6, .int p6)]) hx hb dX1_giveFault_75 hl (by decide) rfl (fun ls hl => ?_)
              exact L_77 FU _ _ _ _ _ _ _ hW hS (lv_sub hl [3, 2, 1, 0] rfl) hX
            · have hX := it_t hX c18
              refine lv_iconst (v := (2 : Int32)) hx hb dX1_giveFault_59 (by decide) ?_
              have hX := Option.some.inj hX
              subst hX
              exact rt_i hx hb hr hlocks hW hS dX1_giveFault_60
      · have hX := it_t hX c9
        refine lv_iconst (v := (1 : Int32)) hx hb dX1_giveFault_29 (by decide) ?_
        have hX := Option.some.inj hX
        subst hX
        exact rt_i hx hb hr hlocks hW hS dX1_giveFault_30
set_option maxHeartbeats 4000000 in
theorem k_X1_giveFault {p : Program} {l : Launch} {e : Env} {R : Room} {s : State} {m : MethodId} {args : Array Value} {below : List Frame} {meth : Method} {c : Code} {H : Heap} {locs : List Loc} {cells slots : Nat} {Q : State → Prop} {cc : ByteArray} {pc nL idx : Nat} {own : String} {ls : Array Slot} {rest : List Value} {G : Geo} {x y : Mem} {H0 : Heap} {p0 : Fin 10} {p1 : Int32} {p2 : Int32} {p3 : Int32} {p4 : Int32} {p5 : Int32} {p6 : Int32} {v : Int32} (hx : p.tables.exec = Jvm.exec) (hb : c.code = cc) (hml : c.maxLocals = nL) (hown : s.vm.findClass own = some m.cls) (htg : ∀ w ∈ wsG, w.before args s = true) (hK : Kt G s) (hW : Wh G x y H) (hS : va_S (gF G) H0 H locs) (h : m_X1_giveFault p0 p1 p2 p3 p4 p5 p6 x = some v) (hlk : Cond.methodLink own idx yX1_giveFault ∈ wsG) (hn : ls.size = nL) (hr : (rest.map fun v => v.category).sum ≤ 8) (hR1 : 1 + 1 ≤ R.frames) (hR2 : 8 + (10 + 11) + 24 ≤ R.locals) (hf : cells ≤ R.cells ∧ slots ≤ R.slots) (hdg : decode cc pc = .ok (.invokevirtual idx, 3)) (kk : ∀ (H1 : Heap) (locs1 : List Loc), Wh G x y H1 → va_S (gF G) H0 H1 locs1 → W p l e R s m args below meth c H1 locs1 cells slots Q (F0 m (pc + 3) ls (.int v :: rest))) : W p l e R s m args below meth c H locs cells slots Q (F0 m pc ls (.int p6 :: .int p5 :: .int p4 :: .int p3 :: .int p2 :: .int p1 :: .ref (gA G 2 ↑p0 0) :: rest)) := by
  refine va_calli (va_runV (As := [.int p1, .int p2, .int p3, .int p4, .int p5, .int p6]) (rest := rest) ⟨hx, hb, hml, hown, htg⟩ (c_X1_giveFault l G x y p0 p1 p2 p3 p4 p5 p6 v h) (cwV 6 htg (gd_V hlk q537 q538 q16 q539) rfl rfl rfl (by decide +kernel) ⟨hR1, hR2⟩) ⟨fun a U g mk q => ⟨q.1, q.2.1.calling, q.2.2⟩, rc_2 hK hW p0, fun U hU hW9 => ⟨rfl, hK.warm hW9, by rw [hU]; exact hW⟩⟩ rfl rfl hn rfl (lv_room hr) hdg hf) hS (fun _ _ h9 => h9) (fun _ h9 => h9) ?_
  intro r9 u t H1 locs1 ht hvm hw hB hz1 hk1 hS1
  replace hB : Wh G x y t.heap := hB
  rw [ht] at hB
  replace hw : r9 = v := hw
  subst hw
  exact kk H1 locs1 hB hS1
/-! METHOD X5_hasPlace -/
def m_X5_hasPlace (p0 : Fin 10 × Fin 31) (p1 : Int32) (x : Mem) : Option Int32 :=
  if p1 < 0 then (some (0 : Int32)) else (if (x 12 ↑p0.1 ↑p0.2 2) ≤ p1 then (some (0 : Int32)) else (some (1 : Int32)))
abbrev WS_X5_hasPlace : List Cond := .code yX5_hasPlace cX5_hasPlace 2 (some .boolean) :: wsG
abbrev RM_X5_hasPlace : Room := { frames := 0, cells := 0, slots := 0, locals := 0 }
set_option maxHeartbeats 4000000 in
set_option maxRecDepth 100000 in
theorem c_X5_hasPlace (l : Launch) (G : Geo) (x y : Mem) (p0 : Fin 10 × Fin 31) (p1 : Int32) (r : Int32) (h : m_X5_hasPlace p0 p1 x = some r) : Met l yX5_hasPlace WS_X5_hasPlace RM_X5_hasPlace (Pw G x y [.ref (gA G 12 ↑p0.1 ↑p0.2), .int p1]) (Qi G x y r) 0 0 (gF G) := by
  refine Met.ofW (cc := cX5_hasPlace) (maxL := 2) (ret := (some .boolean)) (by decide) rfl ?_
  intro p e s m args below meth c s₁ B hml hv
  obtain ⟨rfl, hK, hW⟩ := hv
  have hx := B.exec
  have hb := B.bytes
  have hr := B.returns
  have hts := atoms_spec (ws := WS_X5_hasPlace) B.pre
  have htg : ∀ w ∈ wsG, w.before _ s = true := fun w h => hts w (List.mem_cons_of_mem _ h)
  have hown : s.vm.findClass RX5 = some m.cls := findClass_of_methodNamed B.named
  have hlocks := B.notSynchronized
  have hS : va_S (gF G) s.heap s.heap [] := va_S.rf
  have hl := lv_entry ([.ref (gA G 12 ↑p0.1 ↑p0.2), .int p1]) (n := 2) (Nat.le_of_ble_eq_true rfl)
  rw [lg_entry_eq]
  generalize (lg_sl ([.ref (gA G 12 ↑p0.1 ↑p0.2), .int p1]) ++ List.replicate (2 - (lg_sl ([.ref (gA G 12 ↑p0.1 ↑p0.2), .int p1])).length) Slot.unset).toArray = ls at hl ⊢
  have hl : lv_has ls 2 [(0, .ref (gA G 12 ↑p0.1 ↑p0.2)), (1, .int p1)] := hl
  have hX := h
  unfold m_X5_hasPlace at hX
  refine lv_iload_n hx hb dX5_hasPlace_0 rfl (lv_at hl 1 rfl) ?_
  refine lv_if_lt (tgt := 16) hx hb dX5_hasPlace_1 (by decide) (fun c1 => ?_) (fun c1 => ?_)
  · have hX := it_t hX c1
    refine lv_iconst (v := (0 : Int32)) hx hb dX5_hasPlace_16 (by decide) ?_
    have hX := Option.some.inj hX
    subst hX
    exact rt_z hx hb hr hlocks hW hS nb0 dX5_hasPlace_17
  · have hX := it_f hX c1
    refine lv_iload_n hx hb dX5_hasPlace_4 rfl (lv_at hl 1 rfl) ?_
    refine lv_aload_n hx hb dX5_hasPlace_5 rfl (lv_at hl 0 rfl) ?_
    refine gf_12_2 hx hb htg hown hK hW p0 q294 dX5_hasPlace_6 ?_
    refine lv_icmp_ge (tgt := 16) hx hb dX5_hasPlace_9 (by decide) (fun c2 => ?_) (fun c2 => ?_)
    · have hX := it_t hX c2
      refine lv_iconst (v := (0 : Int32)) hx hb dX5_hasPlace_16 (by decide) ?_
      have hX := Option.some.inj hX
      subst hX
      exact rt_z hx hb hr hlocks hW hS nb0 dX5_hasPlace_17
    · have hX := it_f hX c2
      refine lv_iconst (v := (1 : Int32)) hx hb dX5_hasPlace_12 (by decide) ?_
      refine lv_goto (tgt := 17) hx hb dX5_hasPlace_13 (by decide) ?_
      have hX := Option.some.inj hX
      subst hX
      exact rt_z hx hb hr hlocks hW hS nb1 dX5_hasPlace_17
set_option maxHeartbeats 4000000 in
theorem k_X5_hasPlace {p : Program} {l : Launch} {e : Env} {R : Room} {s : State} {m : MethodId} {args : Array Value} {below : List Frame} {meth : Method} {c : Code} {H : Heap} {locs : List Loc} {cells slots : Nat} {Q : State → Prop} {cc : ByteArray} {pc nL idx : Nat} {own : String} {ls : Array Slot} {rest : List Value} {G : Geo} {x y : Mem} {H0 : Heap} {p0 : Fin 10 × Fin 31} {p1 : Int32} {v : Int32} (hx : p.tables.exec = Jvm.exec) (hb : c.code = cc) (hml : c.maxLocals = nL) (hown : s.vm.findClass own = some m.cls) (htg : ∀ w ∈ wsG, w.before args s = true) (hK : Kt G s) (hW : Wh G x y H) (hS : va_S (gF G) H0 H locs) (h : m_X5_hasPlace p0 p1 x = some v) (hlk : Cond.methodLink own idx yX5_hasPlace ∈ wsG) (hn : ls.size = nL) (hr : (rest.map fun v => v.category).sum ≤ 8) (hR1 : 0 + 1 ≤ R.frames) (hR2 : 8 + (2 + 11) + 0 ≤ R.locals) (hf : cells ≤ R.cells ∧ slots ≤ R.slots) (hdg : decode cc pc = .ok (.invokevirtual idx, 3)) (kk : ∀ (H1 : Heap) (locs1 : List Loc), Wh G x y H1 → va_S (gF G) H0 H1 locs1 → W p l e R s m args below meth c H1 locs1 cells slots Q (F0 m (pc + 3) ls (.int v :: rest))) : W p l e R s m args below meth c H locs cells slots Q (F0 m pc ls (.int p1 :: .ref (gA G 12 ↑p0.1 ↑p0.2) :: rest)) := by
  refine va_calli (va_runV (As := [.int p1]) (rest := rest) ⟨hx, hb, hml, hown, htg⟩ (c_X5_hasPlace l G x y p0 p1 v h) (cwV 1 htg (gd_V hlk q731 q732 q55 q733) rfl rfl rfl (by decide +kernel) ⟨hR1, hR2⟩) ⟨fun a U g mk q => ⟨q.1, q.2.1.calling, q.2.2⟩, rc_12 hK hW p0, fun U hU hW9 => ⟨rfl, hK.warm hW9, by rw [hU]; exact hW⟩⟩ rfl rfl hn rfl (lv_room hr) hdg hf) hS (fun _ _ h9 => h9) (fun _ h9 => h9) ?_
  intro r9 u t H1 locs1 ht hvm hw hB hz1 hk1 hS1
  replace hB : Wh G x y t.heap := hB
  rw [ht] at hB
  replace hw : r9 = v := hw
  subst hw
  exact kk H1 locs1 hB hS1
/-! METHOD X1_hasRequest -/
def m_X1_hasRequest (p0 : Fin 10) (p1 : Fin 10 × Fin 4) (x : Mem) : Option Int32 :=
  bd_ (m_X0_requestedJob p1 x) fun r2 => bd_ (m_X1_jobAt p0 r2) fun r4 => bd_ (m_X0_requestedPlace p1 x) fun r6 => bd_ (m_X5_hasPlace r4 r6 x) fun r8 => gb_ r8 (some r8)
abbrev WS_X1_hasRequest : List Cond := .code yX1_hasRequest cX1_hasRequest 2 (some .boolean) :: wsG
abbrev RM_X1_hasRequest : Room := { frames := 2, cells := 0, slots := 0, locals := 41 }
set_option maxHeartbeats 4000000 in
set_option maxRecDepth 100000 in
theorem c_X1_hasRequest (l : Launch) (G : Geo) (x y : Mem) (p0 : Fin 10) (p1 : Fin 10 × Fin 4) (r : Int32) (h : m_X1_hasRequest p0 p1 x = some r) : Met l yX1_hasRequest WS_X1_hasRequest RM_X1_hasRequest (Pw G x y [.ref (gA G 2 ↑p0 0), .ref (gA G 0 ↑p1.1 ↑p1.2)]) (Qi G x y r) 0 0 (gF G) := by
  refine Met.ofW (cc := cX1_hasRequest) (maxL := 2) (ret := (some .boolean)) (by decide) rfl ?_
  intro p e s m args below meth c s₁ B hml hv
  obtain ⟨rfl, hK, hW⟩ := hv
  have hx := B.exec
  have hb := B.bytes
  have hr := B.returns
  have hts := atoms_spec (ws := WS_X1_hasRequest) B.pre
  have htg : ∀ w ∈ wsG, w.before _ s = true := fun w h => hts w (List.mem_cons_of_mem _ h)
  have hown : s.vm.findClass RX1 = some m.cls := findClass_of_methodNamed B.named
  have hlocks := B.notSynchronized
  have hS : va_S (gF G) s.heap s.heap [] := va_S.rf
  have hl := lv_entry ([.ref (gA G 2 ↑p0 0), .ref (gA G 0 ↑p1.1 ↑p1.2)]) (n := 2) (Nat.le_of_ble_eq_true rfl)
  rw [lg_entry_eq]
  generalize (lg_sl ([.ref (gA G 2 ↑p0 0), .ref (gA G 0 ↑p1.1 ↑p1.2)]) ++ List.replicate (2 - (lg_sl ([.ref (gA G 2 ↑p0 0), .ref (gA G 0 ↑p1.1 ↑p1.2)])).length) Slot.unset).toArray = ls at hl ⊢
  have hl : lv_has ls 2 [(0, .ref (gA G 2 ↑p0 0)), (1, .ref (gA G 0 ↑p1.1 ↑p1.2))] := hl
  have hX := h
  unfold m_X1_hasRequest at hX
  refine lv_aload_n hx hb dX1_hasRequest_0 rfl (lv_at hl 0 rfl) ?_
  refine lv_aload_n hx hb dX1_hasRequest_1 rfl (lv_at hl 1 rfl) ?_
  obtain ⟨r2, h1, hX⟩ := bd_go hX
  refine k_X0_requestedJob hx hb hml hown htg hK hW hS h1 q718 hl.1 (Nat.le_of_ble_eq_true rfl) (Nat.le_of_ble_eq_true rfl) (Nat.le_of_ble_eq_true rfl) ⟨Nat.zero_le _, Nat.zero_le _⟩ dX1_hasRequest_2 (fun H locs hW hS => ?_)
  obtain ⟨r4, h3, hX⟩ := bd_go hX
  refine k_X1_jobAt hx hb hml hown htg hK hW hS h3 q284 hl.1 (Nat.le_of_ble_eq_true rfl) (Nat.le_of_ble_eq_true rfl) (Nat.le_of_ble_eq_true rfl) ⟨Nat.zero_le _, Nat.zero_le _⟩ dX1_hasRequest_5 (fun H locs hW hS => ?_)
  refine lv_aload_n hx hb dX1_hasRequest_8 rfl (lv_at hl 1 rfl) ?_
  obtain ⟨r6, h5, hX⟩ := bd_go hX
  refine k_X0_requestedPlace hx hb hml hown htg hK hW hS h5 q722 hl.1 (Nat.le_of_ble_eq_true rfl) (Nat.le_of_ble_eq_true rfl) (Nat.le_of_ble_eq_true rfl) ⟨Nat.zero_le _, Nat.zero_le _⟩ dX1_hasRequest_9 (fun H locs hW hS => ?_)
  obtain ⟨r8, h7, hX⟩ := bd_go hX
  refine k_X5_hasPlace hx hb hml hown htg hK hW hS h7 q730 hl.1 (Nat.le_of_ble_eq_true rfl) (Nat.le_of_ble_eq_true rfl) (Nat.le_of_ble_eq_true rfl) ⟨Nat.zero_le _, Nat.zero_le _⟩ dX1_hasRequest_12 (fun H locs hW hS => ?_)
  obtain ⟨g9, hX⟩ := gb_go hX
  have hX := Option.some.inj hX
  subst hX
  exact rt_z hx hb hr hlocks hW hS (isB_n g9) dX1_hasRequest_15
set_option maxHeartbeats 4000000 in
theorem k_X1_hasRequest {p : Program} {l : Launch} {e : Env} {R : Room} {s : State} {m : MethodId} {args : Array Value} {below : List Frame} {meth : Method} {c : Code} {H : Heap} {locs : List Loc} {cells slots : Nat} {Q : State → Prop} {cc : ByteArray} {pc nL idx : Nat} {own : String} {ls : Array Slot} {rest : List Value} {G : Geo} {x y : Mem} {H0 : Heap} {p0 : Fin 10} {p1 : Fin 10 × Fin 4} {v : Int32} (hx : p.tables.exec = Jvm.exec) (hb : c.code = cc) (hml : c.maxLocals = nL) (hown : s.vm.findClass own = some m.cls) (htg : ∀ w ∈ wsG, w.before args s = true) (hK : Kt G s) (hW : Wh G x y H) (hS : va_S (gF G) H0 H locs) (h : m_X1_hasRequest p0 p1 x = some v) (hlk : Cond.methodLink own idx yX1_hasRequest ∈ wsG) (hn : ls.size = nL) (hr : (rest.map fun v => v.category).sum ≤ 8) (hR1 : 2 + 1 ≤ R.frames) (hR2 : 8 + (2 + 11) + 41 ≤ R.locals) (hf : cells ≤ R.cells ∧ slots ≤ R.slots) (hdg : decode cc pc = .ok (.invokevirtual idx, 3)) (kk : ∀ (H1 : Heap) (locs1 : List Loc), Wh G x y H1 → va_S (gF G) H0 H1 locs1 → W p l e R s m args below meth c H1 locs1 cells slots Q (F0 m (pc + 3) ls (.int v :: rest))) : W p l e R s m args below meth c H locs cells slots Q (F0 m pc ls (.ref (gA G 0 ↑p1.1 ↑p1.2) :: .ref (gA G 2 ↑p0 0) :: rest)) := by
  refine va_calli (va_runV (As := [.ref (gA G 0 ↑p1.1 ↑p1.2)]) (rest := rest) ⟨hx, hb, hml, hown, htg⟩ (c_X1_hasRequest l G x y p0 p1 v h) (cwV 1 htg (gd_V hlk q715 q716 q16 q717) rfl rfl rfl (by decide +kernel) ⟨hR1, hR2⟩) ⟨fun a U g mk q => ⟨q.1, q.2.1.calling, q.2.2⟩, rc_2 hK hW p0, fun U hU hW9 => ⟨rfl, hK.warm hW9, by rw [hU]; exact hW⟩⟩ rfl rfl hn rfl (lv_room hr) hdg hf) hS (fun _ _ h9 => h9) (fun _ h9 => h9) ?_
  intro r9 u t H1 locs1 ht hvm hw hB hz1 hk1 hS1
  replace hB : Wh G x y t.heap := hB
  rw [ht] at hB
  replace hw : r9 = v := hw
  subst hw
  exact kk H1 locs1 hB hS1
