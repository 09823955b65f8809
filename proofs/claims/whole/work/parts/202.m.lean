/-! METHOD X1_holdersOfAny -/
def m_X1_holdersOfAny_j28 (p0 : Fin 10) (p1 : Int32) (k4 : Int32 → Int32 → Mem → Option Int32) (x2 : Int32) (x3 : Int32) (x : Mem) : Option Int32 :=
  lt_ (x3 + (1 : Int32)) fun x3_8 => k4 x2 x3_8 x
def m_X1_holdersOfAny_b4 (p0 : Fin 10) (p1 : Int32) (k4 : Int32 → Int32 → Mem → Option Int32) (x2 : Int32) (x3 : Int32) (x : Mem) : Option Int32 :=
  if (3 : Int32) ≤ x3 then (some x2) else (bd_ (m_X1_armAt p0 x3) fun r5 => if ((x 0 ↑r5.1 ↑r5.2 6) &&& p1) = 0 then (m_X1_holdersOfAny_j28 p0 p1 k4 x2 x3 x) else (lt_ (x2 ||| (shl32 (1 : Int32) x3)) fun x2_7 => m_X1_holdersOfAny_j28 p0 p1 k4 x2_7 x3 x))
def m_X1_holdersOfAny_l4 (p0 : Fin 10) (p1 : Int32) : Nat → Int32 → Int32 → Mem → Option Int32
  | 0, _, _, _ => none
  | n + 1, x2, x3, x => m_X1_holdersOfAny_b4 p0 p1 (m_X1_holdersOfAny_l4 p0 p1 n) x2 x3 x
def m_X1_holdersOfAny (p0 : Fin 10) (p1 : Int32) (x : Mem) : Option Int32 :=
  lt_ (0 : Int32) fun x2_1 => lt_ (0 : Int32) fun x3_2 => m_X1_holdersOfAny_l4 p0 p1 FU x2_1 x3_2 x
abbrev WS_X1_holdersOfAny : List Cond := .code yX1_holdersOfAny cX1_holdersOfAny 4 (some .int) :: wsG
abbrev RM_X1_holdersOfAny : Room := { frames := 1, cells := 0, slots := 0, locals := 21 }
set_option maxHeartbeats 4000000 in
set_option maxRecDepth 100000 in
theorem c_X1_holdersOfAny (l : Launch) (G : Geo) (x y : Mem) (p0 : Fin 10) (p1 : Int32) (r : Int32) (h : m_X1_holdersOfAny p0 p1 x = some r) : Met l yX1_holdersOfAny WS_X1_holdersOfAny RM_X1_holdersOfAny (Pw G x y [.ref (gA G 2 ↑p0 0), .int p1]) (Qi G x y r) 0 0 (gF G) := by
  refine Met.ofW (cc := cX1_holdersOfAny) (maxL := 4) (ret := (some .int)) (by decide) rfl ?_
  intro p e s m args below meth c s₁ B hml hv
  obtain ⟨rfl, hK, hW⟩ := hv
  have hx := B.exec
  have hb := B.bytes
  have hr := B.returns
  have hts := atoms_spec (ws := WS_X1_holdersOfAny) B.pre
  have htg : ∀ w ∈ wsG, w.before _ s = true := fun w h => hts w (List.mem_cons_of_mem _ h)
  have hown : s.vm.findClass RX1 = some m.cls := findClass_of_methodNamed B.named
  have hlocks := B.notSynchronized
  have hS : va_S (gF G) s.heap s.heap [] := va_S.rf
  have hl := lv_entry ([.ref (gA G 2 ↑p0 0), .int p1]) (n := 4) (Nat.le_of_ble_eq_true rfl)
  rw [lg_entry_eq]
  generalize (lg_sl ([.ref (gA G 2 ↑p0 0), .int p1]) ++ List.replicate (4 - (lg_sl ([.ref (gA G 2 ↑p0 0), .int p1])).length) Slot.unset).toArray = ls at hl ⊢
  have hl : lv_has ls 4 [(0, .ref (gA G 2 ↑p0 0)), (1, .int p1)] := hl
  have hX := h
  unfold m_X1_holdersOfAny at hX
  have J_28 : ∀ (k4 : Int32 → Int32 → Mem → Option Int32) (hk4 : ∀ (x2 : Int32) (x3 : Int32) (x : Mem) (H : Heap) (locs : List Loc) (ls : Array Slot), Wh G x y H → va_S (gF G) s.heap H locs → lv_has ls 4 [(0, .ref (gA G 2 ↑p0 0)), (1, .int p1), (2, .int x2), (3, .int x3)] → k4 x2 x3 x = some r → W p l e (headSpec WS_X1_holdersOfAny RM_X1_holdersOfAny).room s m ([.ref (gA G 2 ↑p0 0), .int p1] : List Value).toArray below meth c H locs 0 0 (MQ below (Qi G x y r) ([.ref (gA G 2 ↑p0 0), .int p1] : List Value).toArray s 0 0 (gF G)) (F0 m 4 ls [])), ∀ (x2 : Int32) (x3 : Int32) (x : Mem) (H : Heap) (locs : List Loc) (ls : Array Slot), Wh G x y H → va_S (gF G) s.heap H locs → lv_has ls 4 [(0, .ref (gA G 2 ↑p0 0)), (1, .int p1), (2, .int x2), (3, .int x3)] → m_X1_holdersOfAny_j28 p0 p1 k4 x2 x3 x = some r → W p l e (headSpec WS_X1_holdersOfAny RM_X1_holdersOfAny).room s m ([.ref (gA G 2 ↑p0 0), .int p1] : List Value).toArray below meth c H locs 0 0 (MQ below (Qi G x y r) ([.ref (gA G 2 ↑p0 0), .int p1] : List Value).toArray s 0 0 (gF G)) (F0 m 28 ls []) := by
    intro k4 hk4 x2 x3 x H locs ls hW hS hl hX
    unfold m_X1_holdersOfAny_j28 at hX
    obtain ⟨x3_8, e9⟩ : ∃ w : Int32, w = (x3 + (1 : Int32)) := ⟨_, rfl⟩
    have hX := lt_go hX e9
    refine lv_iinc (v := x3_8) (lv' := [(3, .int x3_8), (0, .ref (gA G 2 ↑p0 0)), (1, .int p1), (2, .int x2)]) hx hb dX1_holdersOfAny_28 hl (k := 3) rfl (by rw [e9]; rfl) (by decide) rfl (fun ls hl => ?_)
    refine lv_goto (tgt := 4) hx hb dX1_holdersOfAny_31 (by decide) ?_
    exact hk4 _ _ _ _ _ _ hW hS (lv_sub hl [1, 2, 3, 0] rfl) hX
  have B_4 : ∀ (k4 : Int32 → Int32 → Mem → Option Int32) (hk4 : ∀ (x2 : Int32) (x3 : Int32) (x : Mem) (H : Heap) (locs : List Loc) (ls : Array Slot), Wh G x y H → va_S (gF G) s.heap H locs → lv_has ls 4 [(0, .ref (gA G 2 ↑p0 0)), (1, .int p1), (2, .int x2), (3, .int x3)] → k4 x2 x3 x = some r → W p l e (headSpec WS_X1_holdersOfAny RM_X1_holdersOfAny).room s m ([.ref (gA G 2 ↑p0 0), .int p1] : List Value).toArray below meth c H locs 0 0 (MQ below (Qi G x y r) ([.ref (gA G 2 ↑p0 0), .int p1] : List Value).toArray s 0 0 (gF G)) (F0 m 4 ls [])), ∀ (x2 : Int32) (x3 : Int32) (x : Mem) (H : Heap) (locs : List Loc) (ls : Array Slot), Wh G x y H → va_S (gF G) s.heap H locs → lv_has ls 4 [(0, .ref (gA G 2 ↑p0 0)), (1, .int p1), (2, .int x2), (3, .int x3)] → m_X1_holdersOfAny_b4 p0 p1 k4 x2 x3 x = some r → W p l e (headSpec WS_X1_holdersOfAny RM_X1_holdersOfAny).room s m ([.ref (gA G 2 ↑p0 0), .int p1] : List Value).toArray below meth c H locs 0 0 (MQ below (Qi G x y r) ([.ref (gA G 2 ↑p0 0), .int p1] : List Value).toArray s 0 0 (gF G)) (F0 m 4 ls []) := by
    intro k4 hk4 x2 x3 x H locs ls hW hS hl hX
    unfold m_X1_holdersOfAny_b4 at hX
    refine lv_iload_n hx hb dX1_holdersOfAny_4 rfl (lv_at hl 3 rfl) ?_
    refine lv_iconst (v := (3 : Int32)) hx hb dX1_holdersOfAny_5 (by decide) ?_
    refine lv_icmp_ge (tgt := 34) hx hb dX1_holdersOfAny_6 (by decide) (fun c3 => ?_) (fun c3 => ?_)
    · have hX := it_t hX c3
      refine lv_iload_n hx hb dX1_holdersOfAny_34 rfl (lv_at hl 2 rfl) ?_
      have hX := Option.some.inj hX
      subst hX
      exact rt_i hx hb hr hlocks hW hS dX1_holdersOfAny_35
    · have hX := it_f hX c3
      refine lv_aload_n hx hb dX1_holdersOfAny_9 rfl (lv_at hl 0 rfl) ?_
      refine lv_iload_n hx hb dX1_holdersOfAny_10 rfl (lv_at hl 3 rfl) ?_
      obtain ⟨r5, h4, hX⟩ := bd_go hX
      refine k_X1_armAt hx hb hml hown htg hK hW hS h4 q210 hl.1 (Nat.le_of_ble_eq_true rfl) (Nat.le_of_ble_eq_true rfl) (Nat.le_of_ble_eq_true rfl) ⟨Nat.zero_le _, Nat.zero_le _⟩ dX1_holdersOfAny_11 (fun H locs hW hS => ?_)
      refine gf_0_6 hx hb htg hown hK hW r5 q209 dX1_holdersOfAny_14 ?_
      refine lv_iload_n hx hb dX1_holdersOfAny_17 rfl (lv_at hl 1 rfl) ?_
      refine lv_iand hx hb dX1_holdersOfAny_18 ?_
      refine lv_if_eq (tgt := 28) hx hb dX1_holdersOfAny_19 (by decide) (fun c6 => ?_) (fun c6 => ?_)
      · have hX := it_t hX c6
        exact J_28 k4 hk4 _ _ _ _ _ _ hW hS (lv_sub hl [0, 1, 2, 3] rfl) hX
      · have hX := it_f hX c6
        refine lv_iload_n hx hb dX1_holdersOfAny_22 rfl (lv_at hl 2 rfl) ?_
        refine lv_iconst (v := (1 : Int32)) hx hb dX1_holdersOfAny_23 (by decide) ?_
        refine lv_iload_n hx hb dX1_holdersOfAny_24 rfl (lv_at hl 3 rfl) ?_
        refine lv_ishl_ hx hb dX1_holdersOfAny_25 ?_
        refine lv_ior hx hb dX1_holdersOfAny_26 ?_
        refine lv_topi (fun x2_7 e9 => ?_)
        have hX := lt_go hX e9
        refine lv_istore_n (lv' := [(2, .int x2_7), (0, .ref (gA G 2 ↑p0 0)), (1, .int p1), (3, .int x3)]) hx hb dX1_holdersOfAny_27 rfl hl (by decide) rfl (fun ls hl => ?_)
        exact J_28 k4 hk4 _ _ _ _ _ _ hW hS (lv_sub hl [1, 2, 0, 3] rfl) hX
  have L_4 : ∀ (n : Nat), ∀ (x2 : Int32) (x3 : Int32) (x : Mem) (H : Heap) (locs : List Loc) (ls : Array Slot), Wh G x y H → va_S (gF G) s.heap H locs → lv_has ls 4 [(0, .ref (gA G 2 ↑p0 0)), (1, .int p1), (2, .int x2), (3, .int x3)] → m_X1_holdersOfAny_l4 p0 p1 n x2 x3 x = some r → W p l e (headSpec WS_X1_holdersOfAny RM_X1_holdersOfAny).room s m ([.ref (gA G 2 ↑p0 0), .int p1] : List Value).toArray below meth c H locs 0 0 (MQ below (Qi G x y r) ([.ref (gA G 2 ↑p0 0), .int p1] : List Value).toArray s 0 0 (gF G)) (F0 m 4 ls []) := by
    intro n
    induction n with
    | zero => intro x2 x3 x H locs ls hW hS hl hX; exact no_go hX
    | succ n ih => intro x2 x3 x H locs ls hW hS hl hX; exact B_4 _ ih _ _ _ _ _ _ hW hS hl hX
  refine lv_iconst (v := (0 : Int32)) hx hb dX1_holdersOfAny_0 (by decide) ?_
  refine lv_topi (fun x2_1 e9 => ?_)
  have hX := lt_go hX e9
  refine lv_istore_n (lv' := [(2, .int x2_1), (0, .ref (gA G 2 ↑p0 0)), (1, .int p1)]) hx hb dX1_holdersOfAny_1 rfl hl (by decide) rfl (fun ls hl => ?_)
  refine lv_iconst (v := (0 : Int32)) hx hb dX1_holdersOfAny_2 (by decide) ?_
  refine lv_topi (fun x3_2 e9 => ?_)
  have hX := lt_go hX e9
  refine lv_istore_n (lv' := [(3, .int x3_2), (2, .int x2_1), (0, .ref (gA G 2 ↑p0 0)), (1, .int p1)]) hx hb dX1_holdersOfAny_3 rfl hl (by decide) rfl (fun ls hl => ?_)
  exact L_4 FU _ _ _ _ _ _ hW hS (lv_sub hl [2, 3, 1, 0] rfl) hX
set_option maxHeartbeats 4000000 in
theorem k_X1_holdersOfAny {p : Program} {l : Launch} {e : Env} {R : Room} {s : State} {m : MethodId} {args : Array Value} {below : List Frame} {meth : Method} {c : Code} {H : Heap} {locs : List Loc} {cells slots : Nat} {Q : State → Prop} {cc : ByteArray} {pc nL idx : Nat} {own : String} {ls : Array Slot} {rest : List Value} {G : Geo} {x y : Mem} {H0 : Heap} {p0 : Fin 10} {p1 : Int32} {v : Int32} (hx : p.tables.exec = Jvm.exec) (hb : c.code = cc) (hml : c.maxLocals = nL) (hown : s.vm.findClass own = some m.cls) (htg : ∀ w ∈ wsG, w.before args s = true) (hK : Kt G s) (hW : Wh G x y H) (hS : va_S (gF G) H0 H locs) (h : m_X1_holdersOfAny p0 p1 x = some v) (hlk : Cond.methodLink own idx yX1_holdersOfAny ∈ wsG) (hn : ls.size = nL) (hr : (rest.map fun v => v.category).sum ≤ 8) (hR1 : 1 + 1 ≤ R.frames) (hR2 : 8 + (4 + 11) + 21 ≤ R.locals) (hf : cells ≤ R.cells ∧ slots ≤ R.slots) (hdg : decode cc pc = .ok (.invokevirtual idx, 3)) (kk : ∀ (H1 : Heap) (locs1 : List Loc), Wh G x y H1 → va_S (gF G) H0 H1 locs1 → W p l e R s m args below meth c H1 locs1 cells slots Q (F0 m (pc + 3) ls (.int v :: rest))) : W p l e R s m args below meth c H locs cells slots Q (F0 m pc ls (.int p1 :: .ref (gA G 2 ↑p0 0) :: rest)) := by
  refine va_calli (va_runV (As := [.int p1]) (rest := rest) ⟨hx, hb, hml, hown, htg⟩ (c_X1_holdersOfAny l G x y p0 p1 v h) (cwV 1 htg (gd_V hlk q479 q480 q16 q481) rfl rfl rfl (by decide +kernel) ⟨hR1, hR2⟩) ⟨fun a U g mk q => ⟨q.1, q.2.1.calling, q.2.2⟩, rc_2 hK hW p0, fun U hU hW9 => ⟨rfl, hK.warm hW9, by rw [hU]; exact hW⟩⟩ rfl rfl hn rfl (lv_room hr) hdg hf) hS (fun _ _ h9 => h9) (fun _ h9 => h9) ?_
  intro r9 u t H1 locs1 ht hvm hw hB hz1 hk1 hS1
  replace hB : Wh G x y t.heap := hB
  rw [ht] at hB
  replace hw : r9 = v := hw
  subst hw
  exact kk H1 locs1 hB hS1
/-! METHOD X10_ticksHeld -/
def m_X10_ticksHeld (p0 : Fin 10) (p1 : Int32) (x : Mem) : Option Int32 :=
  if p1 < 0 then (some (0 : Int32)) else (if (8 : Int32) ≤ p1 then (some (0 : Int32)) else (gd_ p1 8 (some (x 5 ↑p0 0 p1.toNatClampNeg))))
abbrev WS_X10_ticksHeld : List Cond := .code yX10_ticksHeld cX10_ticksHeld 2 (some .int) :: wsG
abbrev RM_X10_ticksHeld : Room := { frames := 0, cells := 0, slots := 0, locals := 0 }
set_option maxHeartbeats 4000000 in
set_option maxRecDepth 100000 in
theorem c_X10_ticksHeld (l : Launch) (G : Geo) (x y : Mem) (p0 : Fin 10) (p1 : Int32) (r : Int32) (h : m_X10_ticksHeld p0 p1 x = some r) : Met l yX10_ticksHeld WS_X10_ticksHeld RM_X10_ticksHeld (Pw G x y [.ref (gA G 3 ↑p0 0), .int p1]) (Qi G x y r) 0 0 (gF G) := by
  refine Met.ofW (cc := cX10_ticksHeld) (maxL := 2) (ret := (some .int)) (by decide) rfl ?_
  intro p e s m args below meth c s₁ B hml hv
  obtain ⟨rfl, hK, hW⟩ := hv
  have hx := B.exec
  have hb := B.bytes
  have hr := B.returns
  have hts := atoms_spec (ws := WS_X10_ticksHeld) B.pre
  have htg : ∀ w ∈ wsG, w.before _ s = true := fun w h => hts w (List.mem_cons_of_mem _ h)
  have hown : s.vm.findClass RX10 = some m.cls := findClass_of_methodNamed B.named
  have hlocks := B.notSynchronized
  have hS : va_S (gF G) s.heap s.heap [] := va_S.rf
  have hl := lv_entry ([.ref (gA G 3 ↑p0 0), .int p1]) (n := 2) (Nat.le_of_ble_eq_true rfl)
  rw [lg_entry_eq]
  generalize (lg_sl ([.ref (gA G 3 ↑p0 0), .int p1]) ++ List.replicate (2 - (lg_sl ([.ref (gA G 3 ↑p0 0), .int p1])).length) Slot.unset).toArray = ls at hl ⊢
  have hl : lv_has ls 2 [(0, .ref (gA G 3 ↑p0 0)), (1, .int p1)] := hl
  have hX := h
  unfold m_X10_ticksHeld at hX
  refine lv_iload_n hx hb dX10_ticksHeld_0 rfl (lv_at hl 1 rfl) ?_
  refine lv_if_lt (tgt := 22) hx hb dX10_ticksHeld_1 (by decide) (fun c1 => ?_) (fun c1 => ?_)
  · have hX := it_t hX c1
    refine lv_iconst (v := (0 : Int32)) hx hb dX10_ticksHeld_22 (by decide) ?_
    have hX := Option.some.inj hX
    subst hX
    exact rt_i hx hb hr hlocks hW hS dX10_ticksHeld_23
  · have hX := it_f hX c1
    refine lv_iload_n hx hb dX10_ticksHeld_4 rfl (lv_at hl 1 rfl) ?_
    refine lv_aload_n hx hb dX10_ticksHeld_5 rfl (lv_at hl 0 rfl) ?_
    refine gf_3_2 hx hb htg hown hK hW p0 q66 dX10_ticksHeld_6 ?_
    refine an_5 hx hb hK hW p0 dX10_ticksHeld_9 ?_
    refine lv_icmp_ge (tgt := 22) hx hb dX10_ticksHeld_10 (by decide) (fun c2 => ?_) (fun c2 => ?_)
    · have hX := it_t hX c2
      refine lv_iconst (v := (0 : Int32)) hx hb dX10_ticksHeld_22 (by decide) ?_
      have hX := Option.some.inj hX
      subst hX
      exact rt_i hx hb hr hlocks hW hS dX10_ticksHeld_23
    · have hX := it_f hX c2
      refine lv_aload_n hx hb dX10_ticksHeld_13 rfl (lv_at hl 0 rfl) ?_
      refine gf_3_2 hx hb htg hown hK hW p0 q66 dX10_ticksHeld_14 ?_
      refine lv_iload_n hx hb dX10_ticksHeld_17 rfl (lv_at hl 1 rfl) ?_
      obtain ⟨g3, hX⟩ := gd_go hX
      refine al_5 hx hb hK hW p0 g3 dX10_ticksHeld_18 ?_
      refine lv_goto (tgt := 23) hx hb dX10_ticksHeld_19 (by decide) ?_
      have hX := Option.some.inj hX
      subst hX
      exact rt_i hx hb hr hlocks hW hS dX10_ticksHeld_23
set_option maxHeartbeats 4000000 in
theorem k_X10_ticksHeld {p : Program} {l : Launch} {e : Env} {R : Room} {s : State} {m : MethodId} {args : Array Value} {below : List Frame} {meth : Method} {c : Code} {H : Heap} {locs : List Loc} {cells slots : Nat} {Q : State → Prop} {cc : ByteArray} {pc nL idx : Nat} {own : String} {ls : Array Slot} {rest : List Value} {G : Geo} {x y : Mem} {H0 : Heap} {p0 : Fin 10} {p1 : Int32} {v : Int32} (hx : p.tables.exec = Jvm.exec) (hb : c.code = cc) (hml : c.maxLocals = nL) (hown : s.vm.findClass own = some m.cls) (htg : ∀ w ∈ wsG, w.before args s = true) (hK : Kt G s) (hW : Wh G x y H) (hS : va_S (gF G) H0 H locs) (h : m_X10_ticksHeld p0 p1 x = some v) (hlk : Cond.methodLink own idx yX10_ticksHeld ∈ wsG) (hn : ls.size = nL) (hr : (rest.map fun v => v.category).sum ≤ 8) (hR1 : 0 + 1 ≤ R.frames) (hR2 : 8 + (2 + 11) + 0 ≤ R.locals) (hf : cells ≤ R.cells ∧ slots ≤ R.slots) (hdg : decode cc pc = .ok (.invokevirtual idx, 3)) (kk : ∀ (H1 : Heap) (locs1 : List Loc), Wh G x y H1 → va_S (gF G) H0 H1 locs1 → W p l e R s m args below meth c H1 locs1 cells slots Q (F0 m (pc + 3) ls (.int v :: rest))) : W p l e R s m args below meth c H locs cells slots Q (F0 m pc ls (.int p1 :: .ref (gA G 3 ↑p0 0) :: rest)) := by
  refine va_calli (va_runV (As := [.int p1]) (rest := rest) ⟨hx, hb, hml, hown, htg⟩ (c_X10_ticksHeld l G x y p0 p1 v h) (cwV 1 htg (gd_V hlk q483 q484 q39 q485) rfl rfl rfl (by decide +kernel) ⟨hR1, hR2⟩) ⟨fun a U g mk q => ⟨q.1, q.2.1.calling, q.2.2⟩, rc_3 hK hW p0, fun U hU hW9 => ⟨rfl, hK.warm hW9, by rw [hU]; exact hW⟩⟩ rfl rfl hn rfl (lv_room hr) hdg hf) hS (fun _ _ h9 => h9) (fun _ h9 => h9) ?_
  intro r9 u t H1 locs1 ht hvm hw hB hz1 hk1 hS1
  replace hB : Wh G x y t.heap := hB
  rw [ht] at hB
  replace hw : r9 = v := hw
  subst hw
  exact kk H1 locs1 hB hS1
/-! METHOD X1_aboutZone -/
def m_X1_aboutZone (p0 : Fin 10) (p1 : Int32) (p2 : Int32) (x : Mem) : Option Int32 :=
  if p2 = (0 : Int32) then (bd_ (m_X1_holderOf p0 p1 x) fun r3 => some r3) else if p2 = (1 : Int32) then (bd_ (m_X10_conflictsOf p0 p1 x) fun r6 => some r6) else if p2 = (2 : Int32) then (bd_ (m_X1_armsThatReach p0 p1 x) fun r9 => some r9) else if p2 = (3 : Int32) then (bd_ (m_X10_conflictsOf p0 p1 x) fun r12 => bd_ (m_X1_holdersOfAny p0 r12 x) fun r14 => some r14) else (bd_ (m_X10_ticksHeld p0 p1 x) fun r16 => some r16)
abbrev WS_X1_aboutZone : List Cond := .code yX1_aboutZone cX1_aboutZone 3 (some .int) :: wsG
abbrev RM_X1_aboutZone : Room := { frames := 2, cells := 0, slots := 0, locals := 44 }
set_option maxHeartbeats 4000000 in
set_option maxRecDepth 100000 in
theorem c_X1_aboutZone (l : Launch) (G : Geo) (x y : Mem) (p0 : Fin 10) (p1 : Int32) (p2 : Int32) (r : Int32) (h : m_X1_aboutZone p0 p1 p2 x = some r) : Met l yX1_aboutZone WS_X1_aboutZone RM_X1_aboutZone (Pw G x y [.ref (gA G 2 ↑p0 0), .int p1, .int p2]) (Qi G x y r) 0 0 (gF G) := by
  refine Met.ofW (cc := cX1_aboutZone) (maxL := 3) (ret := (some .int)) (by decide) rfl ?_
  intro p e s m args below meth c s₁ B hml hv
  obtain ⟨rfl, hK, hW⟩ := hv
  have hx := B.exec
  have hb := B.bytes
  have hr := B.returns
  have hts := atoms_spec (ws := WS_X1_aboutZone) B.pre
  have htg : ∀ w ∈ wsG, w.before _ s = true := fun w h => hts w (List.mem_cons_of_mem _ h)
  have hown : s.vm.findClass RX1 = some m.cls := findClass_of_methodNamed B.named
  have hlocks := B.notSynchronized
  have hS : va_S (gF G) s.heap s.heap [] := va_S.rf
  have hl := lv_entry ([.ref (gA G 2 ↑p0 0), .int p1, .int p2]) (n := 3) (Nat.le_of_ble_eq_true rfl)
  rw [lg_entry_eq]
  generalize (lg_sl ([.ref (gA G 2 ↑p0 0), .int p1, .int p2]) ++ List.replicate (3 - (lg_sl ([.ref (gA G 2 ↑p0 0), .int p1, .int p2])).length) Slot.unset).toArray = ls at hl ⊢
  have hl : lv_has ls 3 [(0, .ref (gA G 2 ↑p0 0)), (1, .int p1), (2, .int p2)] := hl
  have hX := h
  unfold m_X1_aboutZone at hX
  refine lv_iload_n hx hb dX1_aboutZone_0 rfl (lv_at hl 2 rfl) ?_
  by_cases c1 : p2 = (0 : Int32)
  · have hX := it_t hX c1
    refine lv_tsIn (v := (0 : Int32)) (tgt := 32) hx hb dX1_aboutZone_1 c1 rfl (by decide) (by decide) rfl (by decide) ?_
    refine lv_aload_n hx hb dX1_aboutZone_32 rfl (lv_at hl 0 rfl) ?_
    refine lv_iload_n hx hb dX1_aboutZone_33 rfl (lv_at hl 1 rfl) ?_
    obtain ⟨r3, h2, hX⟩ := bd_go hX
    refine k_X1_holderOf hx hb hml hown htg hK hW hS h2 q205 hl.1 (Nat.le_of_ble_eq_true rfl) (Nat.le_of_ble_eq_true rfl) (Nat.le_of_ble_eq_true rfl) ⟨Nat.zero_le _, Nat.zero_le _⟩ dX1_aboutZone_34 (fun H locs hW hS => ?_)
    have hX := Option.some.inj hX
    subst hX
    exact rt_i hx hb hr hlocks hW hS dX1_aboutZone_37
  have hX := it_f hX c1
  by_cases c4 : p2 = (1 : Int32)
  · have hX := it_t hX c4
    refine lv_tsIn (v := (1 : Int32)) (tgt := 38) hx hb dX1_aboutZone_1 c4 rfl (by decide) (by decide) rfl (by decide) ?_
    refine lv_aload_n hx hb dX1_aboutZone_38 rfl (lv_at hl 0 rfl) ?_
    refine gf_2_7 hx hb htg hown hK hW p0 q40 dX1_aboutZone_39 ?_
    refine lv_iload_n hx hb dX1_aboutZone_42 rfl (lv_at hl 1 rfl) ?_
    obtain ⟨r6, h5, hX⟩ := bd_go hX
    refine k_X10_conflictsOf hx hb hml hown htg hK hW hS h5 q472 hl.1 (Nat.le_of_ble_eq_true rfl) (Nat.le_of_ble_eq_true rfl) (Nat.le_of_ble_eq_true rfl) ⟨Nat.zero_le _, Nat.zero_le _⟩ dX1_aboutZone_43 (fun H locs hW hS => ?_)
    have hX := Option.some.inj hX
    subst hX
    exact rt_i hx hb hr hlocks hW hS dX1_aboutZone_46
  have hX := it_f hX c4
  by_cases c7 : p2 = (2 : Int32)
  · have hX := it_t hX c7
    refine lv_tsIn (v := (2 : Int32)) (tgt := 47) hx hb dX1_aboutZone_1 c7 rfl (by decide) (by decide) rfl (by decide) ?_
    refine lv_aload_n hx hb dX1_aboutZone_47 rfl (lv_at hl 0 rfl) ?_
    refine lv_iload_n hx hb dX1_aboutZone_48 rfl (lv_at hl 1 rfl) ?_
    obtain ⟨r9, h8, hX⟩ := bd_go hX
    refine k_X1_armsThatReach hx hb hml hown htg hK hW hS h8 q473 hl.1 (Nat.le_of_ble_eq_true rfl) (Nat.le_of_ble_eq_true rfl) (Nat.le_of_ble_eq_true rfl) ⟨Nat.zero_le _, Nat.zero_le _⟩ dX1_aboutZone_49 (fun H locs hW hS => ?_)
    have hX := Option.some.inj hX
    subst hX
    exact rt_i hx hb hr hlocks hW hS dX1_aboutZone_52
  have hX := it_f hX c7
  by_cases c10 : p2 = (3 : Int32)
  · have hX := it_t hX c10
    refine lv_tsIn (v := (3 : Int32)) (tgt := 53) hx hb dX1_aboutZone_1 c10 rfl (by decide) (by decide) rfl (by decide) ?_
    refine lv_aload_n hx hb dX1_aboutZone_53 rfl (lv_at hl 0 rfl) ?_
    refine lv_aload_n hx hb dX1_aboutZone_54 rfl (lv_at hl 0 rfl) ?_
    refine gf_2_7 hx hb htg hown hK hW p0 q40 dX1_aboutZone_55 ?_
    refine lv_iload_n hx hb dX1_aboutZone_58 rfl (lv_at hl 1 rfl) ?_
    obtain ⟨r12, h11, hX⟩ := bd_go hX
    refine k_X10_conflictsOf hx hb hml hown htg hK hW hS h11 q472 hl.1 (Nat.le_of_ble_eq_true rfl) (Nat.le_of_ble_eq_true rfl) (Nat.le_of_ble_eq_true rfl) ⟨Nat.zero_le _, Nat.zero_le _⟩ dX1_aboutZone_59 (fun H locs hW hS => ?_)
    obtain ⟨r14, h13, hX⟩ := bd_go hX
    refine k_X1_holdersOfAny hx hb hml hown htg hK hW hS h13 q478 hl.1 (Nat.le_of_ble_eq_true rfl) (Nat.le_of_ble_eq_true rfl) (Nat.le_of_ble_eq_true rfl) ⟨Nat.zero_le _, Nat.zero_le _⟩ dX1_aboutZone_62 (fun H locs hW hS => ?_)
    have hX := Option.some.inj hX
    subst hX
    exact rt_i hx hb hr hlocks hW hS dX1_aboutZone_65
  have hX := it_f hX c10
  refine lv_tsOut (n := 3) (tgt := 66) hx hb dX1_aboutZone_1 (by decide) (fun j hj => match j, hj with | 0, _ => c1 | 1, _ => c4 | 2, _ => c7 | 3, _ => c10 | j + 4, hj => absurd hj (by omega)) (by decide) ?_
  refine lv_aload_n hx hb dX1_aboutZone_66 rfl (lv_at hl 0 rfl) ?_
  refine gf_2_7 hx hb htg hown hK hW p0 q40 dX1_aboutZone_67 ?_
  refine lv_iload_n hx hb dX1_aboutZone_70 rfl (lv_at hl 1 rfl) ?_
  obtain ⟨r16, h15, hX⟩ := bd_go hX
  refine k_X10_ticksHeld hx hb hml hown htg hK hW hS h15 q482 hl.1 (Nat.le_of_ble_eq_true rfl) (Nat.le_of_ble_eq_true rfl) (Nat.le_of_ble_eq_true rfl) ⟨Nat.zero_le _, Nat.zero_le _⟩ dX1_aboutZone_71 (fun H locs hW hS => ?_)
  have hX := Option.some.inj hX
  subst hX
  exact rt_i hx hb hr hlocks hW hS dX1_aboutZone_74
set_option maxHeartbeats 4000000 in
theorem k_X1_aboutZone {p : Program} {l : Launch} {e : Env} {R : Room} {s : State} {m : MethodId} {args : Array Value} {below : List Frame} {meth : Method} {c : Code} {H : Heap} {locs : List Loc} {cells slots : Nat} {Q : State → Prop} {cc : ByteArray} {pc nL idx : Nat} {own : String} {ls : Array Slot} {rest : List Value} {G : Geo} {x y : Mem} {H0 : Heap} {p0 : Fin 10} {p1 : Int32} {p2 : Int32} {v : Int32} (hx : p.tables.exec = Jvm.exec) (hb : c.code = cc) (hml : c.maxLocals = nL) (hown : s.vm.findClass own = some m.cls) (htg : ∀ w ∈ wsG, w.before args s = true) (hK : Kt G s) (hW : Wh G x y H) (hS : va_S (gF G) H0 H locs) (h : m_X1_aboutZone p0 p1 p2 x = some v) (hlk : Cond.methodLink own idx yX1_aboutZone ∈ wsG) (hn : ls.size = nL) (hr : (rest.map fun v => v.category).sum ≤ 8) (hR1 : 2 + 1 ≤ R.frames) (hR2 : 8 + (3 + 11) + 44 ≤ R.locals) (hf : cells ≤ R.cells ∧ slots ≤ R.slots) (hdg : decode cc pc = .ok (.invokevirtual idx, 3)) (kk : ∀ (H1 : Heap) (locs1 : List Loc), Wh G x y H1 → va_S (gF G) H0 H1 locs1 → W p l e R s m args below meth c H1 locs1 cells slots Q (F0 m (pc + 3) ls (.int v :: rest))) : W p l e R s m args below meth c H locs cells slots Q (F0 m pc ls (.int p2 :: .int p1 :: .ref (gA G 2 ↑p0 0) :: rest)) := by
  refine va_calli (va_runV (As := [.int p1, .int p2]) (rest := rest) ⟨hx, hb, hml, hown, htg⟩ (c_X1_aboutZone l G x y p0 p1 p2 v h) (cwV 2 htg (gd_V hlk q469 q470 q16 q471) rfl rfl rfl (by decide +kernel) ⟨hR1, hR2⟩) ⟨fun a U g mk q => ⟨q.1, q.2.1.calling, q.2.2⟩, rc_2 hK hW p0, fun U hU hW9 => ⟨rfl, hK.warm hW9, by rw [hU]; exact hW⟩⟩ rfl rfl hn rfl (lv_room hr) hdg hf) hS (fun _ _ h9 => h9) (fun _ h9 => h9) ?_
  intro r9 u t H1 locs1 ht hvm hw hB hz1 hk1 hS1
  replace hB : Wh G x y t.heap := hB
  rw [ht] at hB
  replace hw : r9 = v := hw
  subst hw
  exact kk H1 locs1 hB hS1
/-! METHOD X1_storeAt -/
def m_X1_storeAt (p0 : Fin 10) (p1 : Int32) : Option (Fin 10 × Fin 4) :=
  if p1 < 0 then (some ((p0, 3) : Fin 10 × Fin 4)) else (if (3 : Int32) ≤ p1 then (some ((p0, 3) : Fin 10 × Fin 4)) else (gd_ p1 3 (lt_ (el_11 p0 p1) fun o4 => lt_ (el_11 p0 p1) fun o5 => some o5)))
abbrev WS_X1_storeAt : List Cond := .code yX1_storeAt cX1_storeAt 2 (some (.object "RobotCell$Store")) :: wsG
abbrev RM_X1_storeAt : Room := { frames := 0, cells := 0, slots := 0, locals := 0 }
set_option maxHeartbeats 4000000 in
set_option maxRecDepth 100000 in
theorem c_X1_storeAt (l : Launch) (G : Geo) (x y : Mem) (p0 : Fin 10) (p1 : Int32) (r : (Fin 10 × Fin 4)) (h : m_X1_storeAt p0 p1 = some r) : Met l yX1_storeAt WS_X1_storeAt RM_X1_storeAt (Pw G x y [.ref (gA G 2 ↑p0 0), .int p1]) (Qr G x y (gA G 9 ↑r.1 ↑r.2)) 0 0 (gF G) := by
  refine Met.ofW (cc := cX1_storeAt) (maxL := 2) (ret := (some (.object "RobotCell$Store"))) (by decide) rfl ?_
  intro p e s m args below meth c s₁ B hml hv
  obtain ⟨rfl, hK, hW⟩ := hv
  have hx := B.exec
  have hb := B.bytes
  have hr := B.returns
  have hts := atoms_spec (ws := WS_X1_storeAt) B.pre
  have htg : ∀ w ∈ wsG, w.before _ s = true := fun w h => hts w (List.mem_cons_of_mem _ h)
  have hown : s.vm.findClass RX1 = some m.cls := findClass_of_methodNamed B.named
  have hlocks := B.notSynchronized
  have hS : va_S (gF G) s.heap s.heap [] := va_S.rf
  have hl := lv_entry ([.ref (gA G 2 ↑p0 0), .int p1]) (n := 2) (Nat.le_of_ble_eq_true rfl)
  rw [lg_entry_eq]
  generalize (lg_sl ([.ref (gA G 2 ↑p0 0), .int p1]) ++ List.replicate (2 - (lg_sl ([.ref (gA G 2 ↑p0 0), .int p1])).length) Slot.unset).toArray = ls at hl ⊢
  have hl : lv_has ls 2 [(0, .ref (gA G 2 ↑p0 0)), (1, .int p1)] := hl
  have hX := h
  unfold m_X1_storeAt at hX
  refine lv_iload_n hx hb dX1_storeAt_0 rfl (lv_at hl 1 rfl) ?_
  refine lv_if_lt (tgt := 31) hx hb dX1_storeAt_1 (by decide) (fun c1 => ?_) (fun c1 => ?_)
  · have hX := it_t hX c1
    refine lv_aload_n hx hb dX1_storeAt_31 rfl (lv_at hl 0 rfl) ?_
    refine gf_2_12 hx hb htg hown hK hW p0 q52 dX1_storeAt_32 ?_
    have hX := Option.some.inj hX
    subst hX
    exact rt_r hx hb hr hlocks hW hS dX1_storeAt_35
  · have hX := it_f hX c1
    refine lv_iload_n hx hb dX1_storeAt_4 rfl (lv_at hl 1 rfl) ?_
    refine lv_aload_n hx hb dX1_storeAt_5 rfl (lv_at hl 0 rfl) ?_
    refine gf_2_11 hx hb htg hown hK hW p0 q58 dX1_storeAt_6 ?_
    refine an_11 hx hb hK hW p0 dX1_storeAt_9 ?_
    refine lv_icmp_ge (tgt := 31) hx hb dX1_storeAt_10 (by decide) (fun c2 => ?_) (fun c2 => ?_)
    · have hX := it_t hX c2
      refine lv_aload_n hx hb dX1_storeAt_31 rfl (lv_at hl 0 rfl) ?_
      refine gf_2_12 hx hb htg hown hK hW p0 q52 dX1_storeAt_32 ?_
      have hX := Option.some.inj hX
      subst hX
      exact rt_r hx hb hr hlocks hW hS dX1_storeAt_35
    · have hX := it_f hX c2
      refine lv_aload_n hx hb dX1_storeAt_13 rfl (lv_at hl 0 rfl) ?_
      refine gf_2_11 hx hb htg hown hK hW p0 q58 dX1_storeAt_14 ?_
      refine lv_iload_n hx hb dX1_storeAt_17 rfl (lv_at hl 1 rfl) ?_
      obtain ⟨g3, hX⟩ := gd_go hX
      refine ae_11 hx hb hK hW p0 g3 dX1_storeAt_18 ?_
      obtain ⟨o4, e9⟩ : ∃ w, w = (el_11 p0 p1) := ⟨_, rfl⟩
      rw [← e9]
      have hX := lt_go hX e9
      refine lv_ifnull hx hb dX1_storeAt_19 ?_
      refine lv_aload_n hx hb dX1_storeAt_22 rfl (lv_at hl 0 rfl) ?_
      refine gf_2_11 hx hb htg hown hK hW p0 q58 dX1_storeAt_23 ?_
      refine lv_iload_n hx hb dX1_storeAt_26 rfl (lv_at hl 1 rfl) ?_
      refine ae_11 hx hb hK hW p0 g3 dX1_storeAt_27 ?_
      obtain ⟨o5, e9⟩ : ∃ w, w = (el_11 p0 p1) := ⟨_, rfl⟩
      rw [← e9]
      have hX := lt_go hX e9
      refine lv_goto (tgt := 35) hx hb dX1_storeAt_28 (by decide) ?_
      have hX := Option.some.inj hX
      subst hX
      exact rt_r hx hb hr hlocks hW hS dX1_storeAt_35
set_option maxHeartbeats 4000000 in
theorem k_X1_storeAt {p : Program} {l : Launch} {e : Env} {R : Room} {s : State} {m : MethodId} {args : Array Value} {below : List Frame} {meth : Method} {c : Code} {H : Heap} {locs : List Loc} {cells slots : Nat} {Q : State → Prop} {cc : ByteArray} {pc nL idx : Nat} {own : String} {ls : Array Slot} {rest : List Value} {G : Geo} {x y : Mem} {H0 : Heap} {p0 : Fin 10} {p1 : Int32} {v : (Fin 10 × Fin 4)} (hx : p.tables.exec = Jvm.exec) (hb : c.code = cc) (hml : c.maxLocals = nL) (hown : s.vm.findClass own = some m.cls) (htg : ∀ w ∈ wsG, w.before args s = true) (hK : Kt G s) (hW : Wh G x y H) (hS : va_S (gF G) H0 H locs) (h : m_X1_storeAt p0 p1 = some v) (hlk : Cond.methodLink own idx yX1_storeAt ∈ wsG) (hn : ls.size = nL) (hr : (rest.map fun v => v.category).sum ≤ 8) (hR1 : 0 + 1 ≤ R.frames) (hR2 : 8 + (2 + 11) + 0 ≤ R.locals) (hf : cells ≤ R.cells ∧ slots ≤ R.slots) (hdg : decode cc pc = .ok (.invokevirtual idx, 3)) (kk : ∀ (H1 : Heap) (locs1 : List Loc), Wh G x y H1 → va_S (gF G) H0 H1 locs1 → W p l e R s m args below meth c H1 locs1 cells slots Q (F0 m (pc + 3) ls (.ref (gA G 9 ↑v.1 ↑v.2) :: rest))) : W p l e R s m args below meth c H locs cells slots Q (F0 m pc ls (.int p1 :: .ref (gA G 2 ↑p0 0) :: rest)) := by
  refine va_callr (va_runV (As := [.int p1]) (rest := rest) ⟨hx, hb, hml, hown, htg⟩ (c_X1_storeAt l G x y p0 p1 v h) (cwV 1 htg (gd_V hlk q272 q273 q16 q274) rfl rfl rfl (by decide +kernel) ⟨hR1, hR2⟩) ⟨fun a U g mk q => ⟨q.1, q.2.1.calling, q.2.2⟩, rc_2 hK hW p0, fun U hU hW9 => ⟨rfl, hK.warm hW9, by rw [hU]; exact hW⟩⟩ rfl rfl hn rfl (lv_room hr) hdg hf) hS (fun _ _ h9 => h9) (fun _ h9 => h9) ?_
  intro u a9 t H1 locs1 ht hvm hw hB hz1 hk1 hS1
  obtain ⟨ha9, hB⟩ := hB
  replace hB : Wh G x y t.heap := hB
  rw [ht] at hB
  replace ha9 : a9 = _ := ha9
  subst ha9
  exact kk H1 locs1 hB hS1
/-! METHOD X1_partsInStores -/
def m_X1_partsInStores_b4 (p0 : Fin 10) (k4 : Int32 → Int32 → Mem → Option Int32) (x1 : Int32) (x2 : Int32) (x : Mem) : Option Int32 :=
  if (3 : Int32) ≤ x2 then (some x1) else (bd_ (m_X1_storeAt p0 x2) fun r5 => lt_ (x1 + (x 9 ↑r5.1 ↑r5.2 1)) fun x1_6 => lt_ (x2 + (1 : Int32)) fun x2_7 => k4 x1_6 x2_7 x)
def m_X1_partsInStores_l4 (p0 : Fin 10) : Nat → Int32 → Int32 → Mem → Option Int32
  | 0, _, _, _ => none
  | n + 1, x1, x2, x => m_X1_partsInStores_b4 p0 (m_X1_partsInStores_l4 p0 n) x1 x2 x
def m_X1_partsInStores (p0 : Fin 10) (x : Mem) : Option Int32 :=
  lt_ (0 : Int32) fun x1_1 => lt_ (0 : Int32) fun x2_2 => m_X1_partsInStores_l4 p0 FU x1_1 x2_2 x
abbrev WS_X1_partsInStores : List Cond := .code yX1_partsInStores cX1_partsInStores 3 (some .int) :: wsG
abbrev RM_X1_partsInStores : Room := { frames := 1, cells := 0, slots := 0, locals := 21 }
set_option maxHeartbeats 4000000 in
set_option maxRecDepth 100000 in
theorem c_X1_partsInStores (l : Launch) (G : Geo) (x y : Mem) (p0 : Fin 10) (r : Int32) (h : m_X1_partsInStores p0 x = some r) : Met l yX1_partsInStores WS_X1_partsInStores RM_X1_partsInStores (Pw G x y [.ref (gA G 2 ↑p0 0)]) (Qi G x y r) 0 0 (gF G) := by
  refine Met.ofW (cc := cX1_partsInStores) (maxL := 3) (ret := (some .int)) (by decide) rfl ?_
  intro p e s m args below meth c s₁ B hml hv
  obtain ⟨rfl, hK, hW⟩ := hv
  have hx := B.exec
  have hb := B.bytes
  have hr := B.returns
  have hts := atoms_spec (ws := WS_X1_partsInStores) B.pre
  have htg : ∀ w ∈ wsG, w.before _ s = true := fun w h => hts w (List.mem_cons_of_mem _ h)
  have hown : s.vm.findClass RX1 = some m.cls := findClass_of_methodNamed B.named
  have hlocks := B.notSynchronized
  have hS : va_S (gF G) s.heap s.heap [] := va_S.rf
  have hl := lv_entry ([.ref (gA G 2 ↑p0 0)]) (n := 3) (Nat.le_of_ble_eq_true rfl)
  rw [lg_entry_eq]
  generalize (lg_sl ([.ref (gA G 2 ↑p0 0)]) ++ List.replicate (3 - (lg_sl ([.ref (gA G 2 ↑p0 0)])).length) Slot.unset).toArray = ls at hl ⊢
  have hl : lv_has ls 3 [(0, .ref (gA G 2 ↑p0 0))] := hl
  have hX := h
  unfold m_X1_partsInStores at hX
  have B_4 : ∀ (k4 : Int32 → Int32 → Mem → Option Int32) (hk4 : ∀ (x1 : Int32) (x2 : Int32) (x : Mem) (H : Heap) (locs : List Loc) (ls : Array Slot), Wh G x y H → va_S (gF G) s.heap H locs → lv_has ls 3 [(0, .ref (gA G 2 ↑p0 0)), (1, .int x1), (2, .int x2)] → k4 x1 x2 x = some r → W p l e (headSpec WS_X1_partsInStores RM_X1_partsInStores).room s m ([.ref (gA G 2 ↑p0 0)] : List Value).toArray below meth c H locs 0 0 (MQ below (Qi G x y r) ([.ref (gA G 2 ↑p0 0)] : List Value).toArray s 0 0 (gF G)) (F0 m 4 ls [])), ∀ (x1 : Int32) (x2 : Int32) (x : Mem) (H : Heap) (locs : List Loc) (ls : Array Slot), Wh G x y H → va_S (gF G) s.heap H locs → lv_has ls 3 [(0, .ref (gA G 2 ↑p0 0)), (1, .int x1), (2, .int x2)] → m_X1_partsInStores_b4 p0 k4 x1 x2 x = some r → W p l e (headSpec WS_X1_partsInStores RM_X1_partsInStores).room s m ([.ref (gA G 2 ↑p0 0)] : List Value).toArray below meth c H locs 0 0 (MQ below (Qi G x y r) ([.ref (gA G 2 ↑p0 0)] : List Value).toArray s 0 0 (gF G)) (F0 m 4 ls []) := by
    intro k4 hk4 x1 x2 x H locs ls hW hS hl hX
    unfold m_X1_partsInStores_b4 at hX
    refine lv_iload_n hx hb dX1_partsInStores_4 rfl (lv_at hl 2 rfl) ?_
    refine lv_iconst (v := (3 : Int32)) hx hb dX1_partsInStores_5 (by decide) ?_
    refine lv_icmp_ge (tgt := 26) hx hb dX1_partsInStores_6 (by decide) (fun c3 => ?_) (fun c3 => ?_)
    · have hX := it_t hX c3
      refine lv_iload_n hx hb dX1_partsInStores_26 rfl (lv_at hl 1 rfl) ?_
      have hX := Option.some.inj hX
      subst hX
      exact rt_i hx hb hr hlocks hW hS dX1_partsInStores_27
    · have hX := it_f hX c3
      refine lv_iload_n hx hb dX1_partsInStores_9 rfl (lv_at hl 1 rfl) ?_
      refine lv_aload_n hx hb dX1_partsInStores_10 rfl (lv_at hl 0 rfl) ?_
      refine lv_iload_n hx hb dX1_partsInStores_11 rfl (lv_at hl 2 rfl) ?_
      obtain ⟨r5, h4, hX⟩ := bd_go hX
      refine k_X1_storeAt hx hb hml hown htg hK hW hS h4 q271 hl.1 (Nat.le_of_ble_eq_true rfl) (Nat.le_of_ble_eq_true rfl) (Nat.le_of_ble_eq_true rfl) ⟨Nat.zero_le _, Nat.zero_le _⟩ dX1_partsInStores_12 (fun H locs hW hS => ?_)
      refine gf_9_1 hx hb htg hown hK hW r5 q1020 dX1_partsInStores_15 ?_
      refine lv_iadd hx hb dX1_partsInStores_18 ?_
      refine lv_topi (fun x1_6 e9 => ?_)
      have hX := lt_go hX e9
      refine lv_istore_n (lv' := [(1, .int x1_6), (0, .ref (gA G 2 ↑p0 0)), (2, .int x2)]) hx hb dX1_partsInStores_19 rfl hl (by decide) rfl (fun ls hl => ?_)
      obtain ⟨x2_7, e9⟩ : ∃ w : Int32, w = (x2 + (1 : Int32)) := ⟨_, rfl⟩
      have hX := lt_go hX e9
      refine lv_iinc (v := x2_7) (lv' := [(2, .int x2_7), (1, .int x1_6), (0, .ref (gA G 2 ↑p0 0))]) hx hb dX1_partsInStores_20 hl (k := 2) rfl (by rw [e9]; rfl) (by decide) rfl (fun ls hl => ?_)
      refine lv_goto (tgt := 4) hx hb dX1_partsInStores_23 (by decide) ?_
      exact hk4 _ _ _ _ _ _ hW hS (lv_sub hl [2, 1, 0] rfl) hX
  have L_4 : ∀ (n : Nat), ∀ (x1 : Int32) (x2 : Int32) (x : Mem) (H : Heap) (locs : List Loc) (ls : Array Slot), Wh G x y H → va_S (gF G) s.heap H locs → lv_has ls 3 [(0, .ref (gA G 2 ↑p0 0)), (1, .int x1), (2, .int x2)] → m_X1_partsInStores_l4 p0 n x1 x2 x = some r → W p l e (headSpec WS_X1_partsInStores RM_X1_partsInStores).room s m ([.ref (gA G 2 ↑p0 0)] : List Value).toArray below meth c H locs 0 0 (MQ below (Qi G x y r) ([.ref (gA G 2 ↑p0 0)] : List Value).toArray s 0 0 (gF G)) (F0 m 4 ls []) := by
    intro n
    induction n with
    | zero => intro x1 x2 x H locs ls hW hS hl hX; exact no_go hX
    | succ n ih => intro x1 x2 x H locs ls hW hS hl hX; exact B_4 _ ih _ _ _ _ _ _ hW hS hl hX
  refine lv_iconst (v := (0 : Int32)) hx hb dX1_partsInStores_0 (by decide) ?_
  refine lv_topi (fun x1_1 e9 => ?_)
  have hX := lt_go hX e9
  refine lv_istore_n (lv' := [(1, .int x1_1), (0, .ref (gA G 2 ↑p0 0))]) hx hb dX1_partsInStores_1 rfl hl (by decide) rfl (fun ls hl => ?_)
  refine lv_iconst (v := (0 : Int32)) hx hb dX1_partsInStores_2 (by decide) ?_
  refine lv_topi (fun x2_2 e9 => ?_)
  have hX := lt_go hX e9
  refine lv_istore_n (lv' := [(2, .int x2_2), (1, .int x1_1), (0, .ref (gA G 2 ↑p0 0))]) hx hb dX1_partsInStores_3 rfl hl (by decide) rfl (fun ls hl => ?_)
  exact L_4 FU _ _ _ _ _ _ hW hS (lv_sub hl [2, 1, 0] rfl) hX
set_option maxHeartbeats 4000000 in
theorem k_X1_partsInStores {p : Program} {l : Launch} {e : Env} {R : Room} {s : State} {m : MethodId} {args : Array Value} {below : List Frame} {meth : Method} {c : Code} {H : Heap} {locs : List Loc} {cells slots : Nat} {Q : State → Prop} {cc : ByteArray} {pc nL idx : Nat} {own : String} {ls : Array Slot} {rest : List Value} {G : Geo} {x y : Mem} {H0 : Heap} {p0 : Fin 10} {v : Int32} (hx : p.tables.exec = Jvm.exec) (hb : c.code = cc) (hml : c.maxLocals = nL) (hown : s.vm.findClass own = some m.cls) (htg : ∀ w ∈ wsG, w.before args s = true) (hK : Kt G s) (hW : Wh G x y H) (hS : va_S (gF G) H0 H locs) (h : m_X1_partsInStores p0 x = some v) (hlk : Cond.methodLink own idx yX1_partsInStores ∈ wsG) (hn : ls.size = nL) (hr : (rest.map fun v => v.category).sum ≤ 8) (hR1 : 1 + 1 ≤ R.frames) (hR2 : 8 + (3 + 11) + 21 ≤ R.locals) (hf : cells ≤ R.cells ∧ slots ≤ R.slots) (hdg : decode cc pc = .ok (.invokevirtual idx, 3)) (kk : ∀ (H1 : Heap) (locs1 : List Loc), Wh G x y H1 → va_S (gF G) H0 H1 locs1 → W p l e R s m args below meth c H1 locs1 cells slots Q (F0 m (pc + 3) ls (.int v :: rest))) : W p l e R s m args below meth c H locs cells slots Q (F0 m pc ls (.ref (gA G 2 ↑p0 0) :: rest)) := by
  refine va_calli (va_runV (As := []) (rest := rest) ⟨hx, hb, hml, hown, htg⟩ (c_X1_partsInStores l G x y p0 v h) (cwV 0 htg (gd_V hlk q1017 q1018 q16 q1019) rfl rfl rfl (by decide +kernel) ⟨hR1, hR2⟩) ⟨fun a U g mk q => ⟨q.1, q.2.1.calling, q.2.2⟩, rc_2 hK hW p0, fun U hU hW9 => ⟨rfl, hK.warm hW9, by rw [hU]; exact hW⟩⟩ rfl rfl hn rfl (lv_room hr) hdg hf) hS (fun _ _ h9 => h9) (fun _ h9 => h9) ?_
  intro r9 u t H1 locs1 ht hvm hw hB hz1 hk1 hS1
  replace hB : Wh G x y t.heap := hB
  rw [ht] at hB
  replace hw : r9 = v := hw
  subst hw
  exact kk H1 locs1 hB hS1
/-! METHOD X7_kept -/
def m_X7_kept (p0 : Fin 10) (x : Mem) : Option Int32 :=
  if (24 : Int32) ≤ (x 6 ↑p0 0 0) then (some (24 : Int32)) else (some (x 6 ↑p0 0 0))
abbrev WS_X7_kept : List Cond := .code yX7_kept cX7_kept 1 (some .int) :: wsG
abbrev RM_X7_kept : Room := { frames := 0, cells := 0, slots := 0, locals := 0 }
set_option maxHeartbeats 4000000 in
set_option maxRecDepth 100000 in
theorem c_X7_kept (l : Launch) (G : Geo) (x y : Mem) (p0 : Fin 10) (r : Int32) (h : m_X7_kept p0 x = some r) : Met l yX7_kept WS_X7_kept RM_X7_kept (Pw G x y [.ref (gA G 6 ↑p0 0)]) (Qi G x y r) 0 0 (gF G) := by
  refine Met.ofW (cc := cX7_kept) (maxL := 1) (ret := (some .int)) (by decide) rfl ?_
  intro p e s m args below meth c s₁ B hml hv
  obtain ⟨rfl, hK, hW⟩ := hv
  have hx := B.exec
  have hb := B.bytes
  have hr := B.returns
  have hts := atoms_spec (ws := WS_X7_kept) B.pre
  have htg : ∀ w ∈ wsG, w.before _ s = true := fun w h => hts w (List.mem_cons_of_mem _ h)
  have hown : s.vm.findClass RX7 = some m.cls := findClass_of_methodNamed B.named
  have hlocks := B.notSynchronized
  have hS : va_S (gF G) s.heap s.heap [] := va_S.rf
  have hl := lv_entry ([.ref (gA G 6 ↑p0 0)]) (n := 1) (Nat.le_of_ble_eq_true rfl)
  rw [lg_entry_eq]
  generalize (lg_sl ([.ref (gA G 6 ↑p0 0)]) ++ List.replicate (1 - (lg_sl ([.ref (gA G 6 ↑p0 0)])).length) Slot.unset).toArray = ls at hl ⊢
  have hl : lv_has ls 1 [(0, .ref (gA G 6 ↑p0 0))] := hl
  have hX := h
  unfold m_X7_kept at hX
  refine lv_aload_n hx hb dX7_kept_0 rfl (lv_at hl 0 rfl) ?_
  refine gf_6_0 hx hb htg hown hK hW p0 q257 dX7_kept_1 ?_
  refine lv_bipush (v := (24 : Int32)) hx hb dX7_kept_4 (by decide) ?_
  refine lv_icmp_ge (tgt := 16) hx hb dX7_kept_6 (by decide) (fun c1 => ?_) (fun c1 => ?_)
  · have hX := it_t hX c1
    refine lv_bipush (v := (24 : Int32)) hx hb dX7_kept_16 (by decide) ?_
    have hX := Option.some.inj hX
    subst hX
    exact rt_i hx hb hr hlocks hW hS dX7_kept_18
  · have hX := it_f hX c1
    refine lv_aload_n hx hb dX7_kept_9 rfl (lv_at hl 0 rfl) ?_
    refine gf_6_0 hx hb htg hown hK hW p0 q257 dX7_kept_10 ?_
    refine lv_goto (tgt := 18) hx hb dX7_kept_13 (by decide) ?_
    have hX := Option.some.inj hX
    subst hX
    exact rt_i hx hb hr hlocks hW hS dX7_kept_18
set_option maxHeartbeats 4000000 in
theorem k_X7_kept {p : Program} {l : Launch} {e : Env} {R : Room} {s : State} {m : MethodId} {args : Array Value} {below : List Frame} {meth : Method} {c : Code} {H : Heap} {locs : List Loc} {cells slots : Nat} {Q : State → Prop} {cc : ByteArray} {pc nL idx : Nat} {own : String} {ls : Array Slot} {rest : List Value} {G : Geo} {x y : Mem} {H0 : Heap} {p0 : Fin 10} {v : Int32} (hx : p.tables.exec = Jvm.exec) (hb : c.code = cc) (hml : c.maxLocals = nL) (hown : s.vm.findClass own = some m.cls) (htg : ∀ w ∈ wsG, w.before args s = true) (hK : Kt G s) (hW : Wh G x y H) (hS : va_S (gF G) H0 H locs) (h : m_X7_kept p0 x = some v) (hlk : Cond.methodLink own idx yX7_kept ∈ wsG) (hn : ls.size = nL) (hr : (rest.map fun v => v.category).sum ≤ 8) (hR1 : 0 + 1 ≤ R.frames) (hR2 : 8 + (1 + 11) + 0 ≤ R.locals) (hf : cells ≤ R.cells ∧ slots ≤ R.slots) (hdg : decode cc pc = .ok (.invokevirtual idx, 3)) (kk : ∀ (H1 : Heap) (locs1 : List Loc), Wh G x y H1 → va_S (gF G) H0 H1 locs1 → W p l e R s m args below meth c H1 locs1 cells slots Q (F0 m (pc + 3) ls (.int v :: rest))) : W p l e R s m args below meth c H locs cells slots Q (F0 m pc ls (.ref (gA G 6 ↑p0 0) :: rest)) := by
  refine va_calli (va_runV (As := []) (rest := rest) ⟨hx, hb, hml, hown, htg⟩ (c_X7_kept l G x y p0 v h) (cwV 0 htg (gd_V hlk q992 q993 q43 q994) rfl rfl rfl (by decide +kernel) ⟨hR1, hR2⟩) ⟨fun a U g mk q => ⟨q.1, q.2.1.calling, q.2.2⟩, rc_6 hK hW p0, fun U hU hW9 => ⟨rfl, hK.warm hW9, by rw [hU]; exact hW⟩⟩ rfl rfl hn rfl (lv_room hr) hdg hf) hS (fun _ _ h9 => h9) (fun _ h9 => h9) ?_
  intro r9 u t H1 locs1 ht hvm hw hB hz1 hk1 hS1
  replace hB : Wh G x y t.heap := hB
  rw [ht] at hB
  replace hw : r9 = v := hw
  subst hw
  exact kk H1 locs1 hB hS1
/-! METHOD X1_refusals -/
def m_X1_refusals_b4 (p0 : Fin 10) (k4 : Int32 → Int32 → Mem → Option Int32) (x1 : Int32) (x2 : Int32) (x : Mem) : Option Int32 :=
  if (3 : Int32) ≤ x2 then (some x1) else (bd_ (m_X1_armAt p0 x2) fun r5 => lt_ (x1 + (x 0 ↑r5.1 ↑r5.2 10)) fun x1_6 => lt_ (x2 + (1 : Int32)) fun x2_7 => k4 x1_6 x2_7 x)
def m_X1_refusals_l4 (p0 : Fin 10) : Nat → Int32 → Int32 → Mem → Option Int32
  | 0, _, _, _ => none
  | n + 1, x1, x2, x => m_X1_refusals_b4 p0 (m_X1_refusals_l4 p0 n) x1 x2 x
def m_X1_refusals (p0 : Fin 10) (x : Mem) : Option Int32 :=
  lt_ (0 : Int32) fun x1_1 => lt_ (0 : Int32) fun x2_2 => m_X1_refusals_l4 p0 FU x1_1 x2_2 x
abbrev WS_X1_refusals : List Cond := .code yX1_refusals cX1_refusals 3 (some .int) :: wsG
abbrev RM_X1_refusals : Room := { frames := 1, cells := 0, slots := 0, locals := 21 }
set_option maxHeartbeats 4000000 in
set_option maxRecDepth 100000 in
theorem c_X1_refusals (l : Launch) (G : Geo) (x y : Mem) (p0 : Fin 10) (r : Int32) (h : m_X1_refusals p0 x = some r) : Met l yX1_refusals WS_X1_refusals RM_X1_refusals (Pw G x y [.ref (gA G 2 ↑p0 0)]) (Qi G x y r) 0 0 (gF G) := by
  refine Met.ofW (cc := cX1_refusals) (maxL := 3) (ret := (some .int)) (by decide) rfl ?_
  intro p e s m args below meth c s₁ B hml hv
  obtain ⟨rfl, hK, hW⟩ := hv
  have hx := B.exec
  have hb := B.bytes
  have hr := B.returns
  have hts := atoms_spec (ws := WS_X1_refusals) B.pre
  have htg : ∀ w ∈ wsG, w.before _ s = true := fun w h => hts w (List.mem_cons_of_mem _ h)
  have hown : s.vm.findClass RX1 = some m.cls := findClass_of_methodNamed B.named
  have hlocks := B.notSynchronized
  have hS : va_S (gF G) s.heap s.heap [] := va_S.rf
  have hl := lv_entry ([.ref (gA G 2 ↑p0 0)]) (n := 3) (Nat.le_of_ble_eq_true rfl)
  rw [lg_entry_eq]
  generalize (lg_sl ([.ref (gA G 2 ↑p0 0)]) ++ List.replicate (3 - (lg_sl ([.ref (gA G 2 ↑p0 0)])).length) Slot.unset).toArray = ls at hl ⊢
  have hl : lv_has ls 3 [(0, .ref (gA G 2 ↑p0 0))] := hl
  have hX := h
  unfold m_X1_refusals at hX
  have B_4 : ∀ (k4 : Int32 → Int32 → Mem → Option Int32) (hk4 : ∀ (x1 : Int32) (x2 : Int32) (x : Mem) (H : Heap) (locs : List Loc) (ls : Array Slot), Wh G x y H → va_S (gF G) s.heap H locs → lv_has ls 3 [(0, .ref (gA G 2 ↑p0 0)), (1, .int x1), (2, .int x2)] → k4 x1 x2 x = some r → W p l e (headSpec WS_X1_refusals RM_X1_refusals).room s m ([.ref (gA G 2 ↑p0 0)] : List Value).toArray below meth c H locs 0 0 (MQ below (Qi G x y r) ([.ref (gA G 2 ↑p0 0)] : List Value).toArray s 0 0 (gF G)) (F0 m 4 ls [])), ∀ (x1 : Int32) (x2 : Int32) (x : Mem) (H : Heap) (locs : List Loc) (ls : Array Slot), Wh G x y H → va_S (gF G) s.heap H locs → lv_has ls 3 [(0, .ref (gA G 2 ↑p0 0)), (1, .int x1), (2, .int x2)] → m_X1_refusals_b4 p0 k4 x1 x2 x = some r → W p l e (headSpec WS_X1_refusals RM_X1_refusals).room s m ([.ref (gA G 2 ↑p0 0)] : List Value).toArray below meth c H locs 0 0 (MQ below (Qi G x y r) ([.ref (gA G 2 ↑p0 0)] : List Value).toArray s 0 0 (gF G)) (F0 m 4 ls []) := by
    intro k4 hk4 x1 x2 x H locs ls hW hS hl hX
    unfold m_X1_refusals_b4 at hX
    refine lv_iload_n hx hb dX1_refusals_4 rfl (lv_at hl 2 rfl) ?_
    refine lv_iconst (v := (3 : Int32)) hx hb dX1_refusals_5 (by decide) ?_
    refine lv_icmp_ge (tgt := 26) hx hb dX1_refusals_6 (by decide) (fun c3 => ?_) (fun c3 => ?_)
    · have hX := it_t hX c3
      refine lv_iload_n hx hb dX1_refusals_26 rfl (lv_at hl 1 rfl) ?_
      have hX := Option.some.inj hX
      subst hX
      exact rt_i hx hb hr hlocks hW hS dX1_refusals_27
    · have hX := it_f hX c3
      refine lv_iload_n hx hb dX1_refusals_9 rfl (lv_at hl 1 rfl) ?_
      refine lv_aload_n hx hb dX1_refusals_10 rfl (lv_at hl 0 rfl) ?_
      refine lv_iload_n hx hb dX1_refusals_11 rfl (lv_at hl 2 rfl) ?_
      obtain ⟨r5, h4, hX⟩ := bd_go hX
      refine k_X1_armAt hx hb hml hown htg hK hW hS h4 q210 hl.1 (Nat.le_of_ble_eq_true rfl) (Nat.le_of_ble_eq_true rfl) (Nat.le_of_ble_eq_true rfl) ⟨Nat.zero_le _, Nat.zero_le _⟩ dX1_refusals_12 (fun H locs hW hS => ?_)
      refine gf_0_10 hx hb htg hown hK hW r5 q649 dX1_refusals_15 ?_
      refine lv_iadd hx hb dX1_refusals_18 ?_
      refine lv_topi (fun x1_6 e9 => ?_)
      have hX := lt_go hX e9
      refine lv_istore_n (lv' := [(1, .int x1_6), (0, .ref (gA G 2 ↑p0 0)), (2, .int x2)]) hx hb dX1_refusals_19 rfl hl (by decide) rfl (fun ls hl => ?_)
      obtain ⟨x2_7, e9⟩ : ∃ w : Int32, w = (x2 + (1 : Int32)) := ⟨_, rfl⟩
      have hX := lt_go hX e9
      refine lv_iinc (v := x2_7) (lv' := [(2, .int x2_7), (1, .int x1_6), (0, .ref (gA G 2 ↑p0 0))]) hx hb dX1_refusals_20 hl (k := 2) rfl (by rw [e9]; rfl) (by decide) rfl (fun ls hl => ?_)
      refine lv_goto (tgt := 4) hx hb dX1_refusals_23 (by decide) ?_
      exact hk4 _ _ _ _ _ _ hW hS (lv_sub hl [2, 1, 0] rfl) hX
  have L_4 : ∀ (n : Nat), ∀ (x1 : Int32) (x2 : Int32) (x : Mem) (H : Heap) (locs : List Loc) (ls : Array Slot), Wh G x y H → va_S (gF G) s.heap H locs → lv_has ls 3 [(0, .ref (gA G 2 ↑p0 0)), (1, .int x1), (2, .int x2)] → m_X1_refusals_l4 p0 n x1 x2 x = some r → W p l e (headSpec WS_X1_refusals RM_X1_refusals).room s m ([.ref (gA G 2 ↑p0 0)] : List Value).toArray below meth c H locs 0 0 (MQ below (Qi G x y r) ([.ref (gA G 2 ↑p0 0)] : List Value).toArray s 0 0 (gF G)) (F0 m 4 ls []) := by
    intro n
    induction n with
    | zero => intro x1 x2 x H locs ls hW hS hl hX; exact no_go hX
    | succ n ih => intro x1 x2 x H locs ls hW hS hl hX; exact B_4 _ ih _ _ _ _ _ _ hW hS hl hX
  refine lv_iconst (v := (0 : Int32)) hx hb dX1_refusals_0 (by decide) ?_
  refine lv_topi (fun x1_1 e9 => ?_)
  have hX := lt_go hX e9
  refine lv_istore_n (lv' := [(1, .int x1_1), (0, .ref (gA G 2 ↑p0 0))]) hx hb dX1_refusals_1 rfl hl (by decide) rfl (fun ls hl => ?_)
  refine lv_iconst (v := (0 : Int32)) hx hb dX1_refusals_2 (by decide) ?_
  refine lv_topi (fun x2_2 e9 => ?_)
  have hX := lt_go hX e9
  refine lv_istore_n (lv' := [(2, .int x2_2), (1, .int x1_1), (0, .ref (gA G 2 ↑p0 0))]) hx hb dX1_refusals_3 rfl hl (by decide) rfl (fun ls hl => ?_)
  exact L_4 FU _ _ _ _ _ _ hW hS (lv_sub hl [2, 1, 0] rfl) hX
set_option maxHeartbeats 4000000 in
theorem k_X1_refusals {p : Program} {l : Launch} {e : Env} {R : Room} {s : State} {m : MethodId} {args : Array Value} {below : List Frame} {meth : Method} {c : Code} {H : Heap} {locs : List Loc} {cells slots : Nat} {Q : State → Prop} {cc : ByteArray} {pc nL idx : Nat} {own : String} {ls : Array Slot} {rest : List Value} {G : Geo} {x y : Mem} {H0 : Heap} {p0 : Fin 10} {v : Int32} (hx : p.tables.exec = Jvm.exec) (hb : c.code = cc) (hml : c.maxLocals = nL) (hown : s.vm.findClass own = some m.cls) (htg : ∀ w ∈ wsG, w.before args s = true) (hK : Kt G s) (hW : Wh G x y H) (hS : va_S (gF G) H0 H locs) (h : m_X1_refusals p0 x = some v) (hlk : Cond.methodLink own idx yX1_refusals ∈ wsG) (hn : ls.size = nL) (hr : (rest.map fun v => v.category).sum ≤ 8) (hR1 : 1 + 1 ≤ R.frames) (hR2 : 8 + (3 + 11) + 21 ≤ R.locals) (hf : cells ≤ R.cells ∧ slots ≤ R.slots) (hdg : decode cc pc = .ok (.invokevirtual idx, 3)) (kk : ∀ (H1 : Heap) (locs1 : List Loc), Wh G x y H1 → va_S (gF G) H0 H1 locs1 → W p l e R s m args below meth c H1 locs1 cells slots Q (F0 m (pc + 3) ls (.int v :: rest))) : W p l e R s m args below meth c H locs cells slots Q (F0 m pc ls (.ref (gA G 2 ↑p0 0) :: rest)) := by
  refine va_calli (va_runV (As := []) (rest := rest) ⟨hx, hb, hml, hown, htg⟩ (c_X1_refusals l G x y p0 v h) (cwV 0 htg (gd_V hlk q1023 q1024 q16 q1025) rfl rfl rfl (by decide +kernel) ⟨hR1, hR2⟩) ⟨fun a U g mk q => ⟨q.1, q.2.1.calling, q.2.2⟩, rc_2 hK hW p0, fun U hU hW9 => ⟨rfl, hK.warm hW9, by rw [hU]; exact hW⟩⟩ rfl rfl hn rfl (lv_room hr) hdg hf) hS (fun _ _ h9 => h9) (fun _ h9 => h9) ?_
  intro r9 u t H1 locs1 ht hvm hw hB hz1 hk1 hS1
  replace hB : Wh G x y t.heap := hB
  rw [ht] at hB
  replace hw : r9 = v := hw
  subst hw
  exact kk H1 locs1 hB hS1
/-! METHOD X1_accountOf -/
def m_X1_accountOf (p0 : Fin 10) (p1 : Int32) (x : Mem) : Option Int32 :=
  if p1 = (0 : Int32) then (some (x 2 ↑p0 0 0)) else if p1 = (1 : Int32) then (some (x 2 ↑p0 0 1)) else if p1 = (2 : Int32) then (some (x 2 ↑p0 0 2)) else if p1 = (3 : Int32) then (some (x 2 ↑p0 0 3)) else if p1 = (4 : Int32) then (some (x 2 ↑p0 0 4)) else if p1 = (5 : Int32) then (bd_ (m_X1_partsInStores p0 x) fun r8 => some r8) else if p1 = (6 : Int32) then (some (x 2 ↑p0 0 5)) else if p1 = (7 : Int32) then (bd_ (m_X7_kept p0 x) fun r12 => some r12) else if p1 = (8 : Int32) then (bd_ (m_X1_refusals p0 x) fun r15 => some r15) else (some (x 3 ↑p0 0 0))
abbrev WS_X1_accountOf : List Cond := .code yX1_accountOf cX1_accountOf 2 (some .int) :: wsG
abbrev RM_X1_accountOf : Room := { frames := 2, cells := 0, slots := 0, locals := 43 }
set_option maxHeartbeats 4000000 in
set_option maxRecDepth 100000 in
theorem c_X1_accountOf (l : Launch) (G : Geo) (x y : Mem) (p0 : Fin 10) (p1 : Int32) (r : Int32) (h : m_X1_accountOf p0 p1 x = some r) : Met l yX1_accountOf WS_X1_accountOf RM_X1_accountOf (Pw G x y [.ref (gA G 2 ↑p0 0), .int p1]) (Qi G x y r) 0 0 (gF G) := by
  refine Met.ofW (cc := cX1_accountOf) (maxL := 2) (ret := (some .int)) (by decide) rfl ?_
  intro p e s m args below meth c s₁ B hml hv
  obtain ⟨rfl, hK, hW⟩ := hv
  have hx := B.exec
  have hb := B.bytes
  have hr := B.returns
  have hts := atoms_spec (ws := WS_X1_accountOf) B.pre
  have htg : ∀ w ∈ wsG, w.before _ s = true := fun w h => hts w (List.mem_cons_of_mem _ h)
  have hown : s.vm.findClass RX1 = some m.cls := findClass_of_methodNamed B.named
  have hlocks := B.notSynchronized
  have hS : va_S (gF G) s.heap s.heap [] := va_S.rf
  have hl := lv_entry ([.ref (gA G 2 ↑p0 0), .int p1]) (n := 2) (Nat.le_of_ble_eq_true rfl)
  rw [lg_entry_eq]
  generalize (lg_sl ([.ref (gA G 2 ↑p0 0), .int p1]) ++ List.replicate (2 - (lg_sl ([.ref (gA G 2 ↑p0 0), .int p1])).length) Slot.unset).toArray = ls at hl ⊢
  have hl : lv_has ls 2 [(0, .ref (gA G 2 ↑p0 0)), (1, .int p1)] := hl
  have hX := h
  unfold m_X1_accountOf at hX
  refine lv_iload_n hx hb dX1_accountOf_0 rfl (lv_at hl 1 rfl) ?_
  by_cases c1 : p1 = (0 : Int32)
  · have hX := it_t hX c1
    refine lv_tsIn (v := (0 : Int32)) (tgt := 52) hx hb dX1_accountOf_1 c1 rfl (by decide) (by decide) rfl (by decide) ?_
    refine lv_aload_n hx hb dX1_accountOf_52 rfl (lv_at hl 0 rfl) ?_
    refine gf_2_0 hx hb htg hown hK hW p0 q239 dX1_accountOf_53 ?_
    have hX := Option.some.inj hX
    subst hX
    exact rt_i hx hb hr hlocks hW hS dX1_accountOf_56
  have hX := it_f hX c1
  by_cases c2 : p1 = (1 : Int32)
  · have hX := it_t hX c2
    refine lv_tsIn (v := (1 : Int32)) (tgt := 57) hx hb dX1_accountOf_1 c2 rfl (by decide) (by decide) rfl (by decide) ?_
    refine lv_aload_n hx hb dX1_accountOf_57 rfl (lv_at hl 0 rfl) ?_
    refine gf_2_1 hx hb htg hown hK hW p0 q240 dX1_accountOf_58 ?_
    have hX := Option.some.inj hX
    subst hX
    exact rt_i hx hb hr hlocks hW hS dX1_accountOf_61
  have hX := it_f hX c2
  by_cases c3 : p1 = (2 : Int32)
  · have hX := it_t hX c3
    refine lv_tsIn (v := (2 : Int32)) (tgt := 62) hx hb dX1_accountOf_1 c3 rfl (by decide) (by decide) rfl (by decide) ?_
    refine lv_aload_n hx hb dX1_accountOf_62 rfl (lv_at hl 0 rfl) ?_
    refine gf_2_2 hx hb htg hown hK hW p0 q241 dX1_accountOf_63 ?_
    have hX := Option.some.inj hX
    subst hX
    exact rt_i hx hb hr hlocks hW hS dX1_accountOf_66
  have hX := it_f hX c3
  by_cases c4 : p1 = (3 : Int32)
  · have hX := it_t hX c4
    refine lv_tsIn (v := (3 : Int32)) (tgt := 67) hx hb dX1_accountOf_1 c4 rfl (by decide) (by decide) rfl (by decide) ?_
    refine lv_aload_n hx hb dX1_accountOf_67 rfl (lv_at hl 0 rfl) ?_
    refine gf_2_3 hx hb htg hown hK hW p0 q242 dX1_accountOf_68 ?_
    have hX := Option.some.inj hX
    subst hX
    exact rt_i hx hb hr hlocks hW hS dX1_accountOf_71
  have hX := it_f hX c4
  by_cases c5 : p1 = (4 : Int32)
  · have hX := it_t hX c5
    refine lv_tsIn (v := (4 : Int32)) (tgt := 72) hx hb dX1_accountOf_1 c5 rfl (by decide) (by decide) rfl (by decide) ?_
    refine lv_aload_n hx hb dX1_accountOf_72 rfl (lv_at hl 0 rfl) ?_
    refine gf_2_4 hx hb htg hown hK hW p0 q243 dX1_accountOf_73 ?_
    have hX := Option.some.inj hX
    subst hX
    exact rt_i hx hb hr hlocks hW hS dX1_accountOf_76
  have hX := it_f hX c5
  by_cases c6 : p1 = (5 : Int32)
  · have hX := it_t hX c6
    refine lv_tsIn (v := (5 : Int32)) (tgt := 77) hx hb dX1_accountOf_1 c6 rfl (by decide) (by decide) rfl (by decide) ?_
    refine lv_aload_n hx hb dX1_accountOf_77 rfl (lv_at hl 0 rfl) ?_
    obtain ⟨r8, h7, hX⟩ := bd_go hX
    refine k_X1_partsInStores hx hb hml hown htg hK hW hS h7 q1016 hl.1 (Nat.le_of_ble_eq_true rfl) (Nat.le_of_ble_eq_true rfl) (Nat.le_of_ble_eq_true rfl) ⟨Nat.zero_le _, Nat.zero_le _⟩ dX1_accountOf_78 (fun H locs hW hS => ?_)
    have hX := Option.some.inj hX
    subst hX
    exact rt_i hx hb hr hlocks hW hS dX1_accountOf_81
  have hX := it_f hX c6
  by_cases c9 : p1 = (6 : Int32)
  · have hX := it_t hX c9
    refine lv_tsIn (v := (6 : Int32)) (tgt := 82) hx hb dX1_accountOf_1 c9 rfl (by decide) (by decide) rfl (by decide) ?_
    refine lv_aload_n hx hb dX1_accountOf_82 rfl (lv_at hl 0 rfl) ?_
    refine gf_2_5 hx hb htg hown hK hW p0 q244 dX1_accountOf_83 ?_
    have hX := Option.some.inj hX
    subst hX
    exact rt_i hx hb hr hlocks hW hS dX1_accountOf_86
  have hX := it_f hX c9
  by_cases c10 : p1 = (7 : Int32)
  · have hX := it_t hX c10
    refine lv_tsIn (v := (7 : Int32)) (tgt := 87) hx hb dX1_accountOf_1 c10 rfl (by decide) (by decide) rfl (by decide) ?_
    refine lv_aload_n hx hb dX1_accountOf_87 rfl (lv_at hl 0 rfl) ?_
    refine gf_2_8 hx hb htg hown hK hW p0 q44 dX1_accountOf_88 ?_
    obtain ⟨r12, h11, hX⟩ := bd_go hX
    refine k_X7_kept hx hb hml hown htg hK hW hS h11 q1021 hl.1 (Nat.le_of_ble_eq_true rfl) (Nat.le_of_ble_eq_true rfl) (Nat.le_of_ble_eq_true rfl) ⟨Nat.zero_le _, Nat.zero_le _⟩ dX1_accountOf_91 (fun H locs hW hS => ?_)
    have hX := Option.some.inj hX
    subst hX
    exact rt_i hx hb hr hlocks hW hS dX1_accountOf_94
  have hX := it_f hX c10
  by_cases c13 : p1 = (8 : Int32)
  · have hX := it_t hX c13
    refine lv_tsIn (v := (8 : Int32)) (tgt := 95) hx hb dX1_accountOf_1 c13 rfl (by decide) (by decide) rfl (by decide) ?_
    refine lv_aload_n hx hb dX1_accountOf_95 rfl (lv_at hl 0 rfl) ?_
    obtain ⟨r15, h14, hX⟩ := bd_go hX
    refine k_X1_refusals hx hb hml hown htg hK hW hS h14 q1022 hl.1 (Nat.le_of_ble_eq_true rfl) (Nat.le_of_ble_eq_true rfl) (Nat.le_of_ble_eq_true rfl) ⟨Nat.zero_le _, Nat.zero_le _⟩ dX1_accountOf_96 (fun H locs hW hS => ?_)
    have hX := Option.some.inj hX
    subst hX
    exact rt_i hx hb hr hlocks hW hS dX1_accountOf_99
  have hX := it_f hX c13
  refine lv_tsOut (n := 8) (tgt := 100) hx hb dX1_accountOf_1 (by decide) (fun j hj => match j, hj with | 0, _ => c1 | 1, _ => c2 | 2, _ => c3 | 3, _ => c4 | 4, _ => c5 | 5, _ => c6 | 6, _ => c9 | 7, _ => c10 | 8, _ => c13 | j + 9, hj => absurd hj (by omega)) (by decide) ?_
  refine lv_aload_n hx hb dX1_accountOf_100 rfl (lv_at hl 0 rfl) ?_
  refine gf_2_7 hx hb htg hown hK hW p0 q40 dX1_accountOf_101 ?_
  refine gf_3_0 hx hb htg hown hK hW p0 q1015 dX1_accountOf_104 ?_
  have hX := Option.some.inj hX
  subst hX
  exact rt_i hx hb hr hlocks hW hS dX1_accountOf_107
set_option maxHeartbeats 4000000 in
theorem k_X1_accountOf {p : Program} {l : Launch} {e : Env} {R : Room} {s : State} {m : MethodId} {args : Array Value} {below : List Frame} {meth : Method} {c : Code} {H : Heap} {locs : List Loc} {cells slots : Nat} {Q : State → Prop} {cc : ByteArray} {pc nL idx : Nat} {own : String} {ls : Array Slot} {rest : List Value} {G : Geo} {x y : Mem} {H0 : Heap} {p0 : Fin 10} {p1 : Int32} {v : Int32} (hx : p.tables.exec = Jvm.exec) (hb : c.code = cc) (hml : c.maxLocals = nL) (hown : s.vm.findClass own = some m.cls) (htg : ∀ w ∈ wsG, w.before args s = true) (hK : Kt G s) (hW : Wh G x y H) (hS : va_S (gF G) H0 H locs) (h : m_X1_accountOf p0 p1 x = some v) (hlk : Cond.methodLink own idx yX1_accountOf ∈ wsG) (hn : ls.size = nL) (hr : (rest.map fun v => v.category).sum ≤ 8) (hR1 : 2 + 1 ≤ R.frames) (hR2 : 8 + (2 + 11) + 43 ≤ R.locals) (hf : cells ≤ R.cells ∧ slots ≤ R.slots) (hdg : decode cc pc = .ok (.invokevirtual idx, 3)) (kk : ∀ (H1 : Heap) (locs1 : List Loc), Wh G x y H1 → va_S (gF G) H0 H1 locs1 → W p l e R s m args below meth c H1 locs1 cells slots Q (F0 m (pc + 3) ls (.int v :: rest))) : W p l e R s m args below meth c H locs cells slots Q (F0 m pc ls (.int p1 :: .ref (gA G 2 ↑p0 0) :: rest)) := by
  refine va_calli (va_runV (As := [.int p1]) (rest := rest) ⟨hx, hb, hml, hown, htg⟩ (c_X1_accountOf l G x y p0 p1 v h) (cwV 1 htg (gd_V hlk q1012 q1013 q16 q1014) rfl rfl rfl (by decide +kernel) ⟨hR1, hR2⟩) ⟨fun a U g mk q => ⟨q.1, q.2.1.calling, q.2.2⟩, rc_2 hK hW p0, fun U hU hW9 => ⟨rfl, hK.warm hW9, by rw [hU]; exact hW⟩⟩ rfl rfl hn rfl (lv_room hr) hdg hf) hS (fun _ _ h9 => h9) (fun _ h9 => h9) ?_
  intro r9 u t H1 locs1 ht hvm hw hB hz1 hk1 hS1
  replace hB : Wh G x y t.heap := hB
  rw [ht] at hB
  replace hw : r9 = v := hw
  subst hw
  exact kk H1 locs1 hB hS1
/-! METHOD X5_lengthOf -/
def m_X5_lengthOf_b6 (p0 : Int32) (k6 : Int32 → Int32 → Int32 → Option Int32) (x1 : Int32) (x2 : Int32) (x3 : Int32) : Option Int32 :=
  if (5 : Int32) ≤ x3 then (some x2) else (if x1 ≤ 0 then (some x2) else (lt_ (x2 + (1 : Int32)) fun x2_6 => lt_ (x1 / (10 : Int32)) fun x1_7 => lt_ (x3 + (1 : Int32)) fun x3_8 => k6 x1_7 x2_6 x3_8))
def m_X5_lengthOf_l6 (p0 : Int32) : Nat → Int32 → Int32 → Int32 → Option Int32
  | 0, _, _, _ => none
  | n + 1, x1, x2, x3 => m_X5_lengthOf_b6 p0 (m_X5_lengthOf_l6 p0 n) x1 x2 x3
def m_X5_lengthOf (p0 : Int32) : Option Int32 :=
  lt_ p0 fun x1_1 => lt_ (0 : Int32) fun x2_2 => lt_ (0 : Int32) fun x3_3 => m_X5_lengthOf_l6 p0 FU x1_1 x2_2 x3_3
abbrev WS_X5_lengthOf : List Cond := .code yX5_lengthOf cX5_lengthOf 4 (some .int) :: wsG
abbrev RM_X5_lengthOf : Room := { frames := 0, cells := 0, slots := 0, locals := 0 }
set_option maxHeartbeats 4000000 in
set_option maxRecDepth 100000 in
theorem c_X5_lengthOf (l : Launch) (G : Geo) (x y : Mem) (p0 : Int32) (r : Int32) (h : m_X5_lengthOf p0 = some r) : Met l yX5_lengthOf WS_X5_lengthOf RM_X5_lengthOf (Pw G x y [.int p0]) (Qi G x y r) 0 0 (gF G) := by
  refine Met.ofW (cc := cX5_lengthOf) (maxL := 4) (ret := (some .int)) (by decide) rfl ?_
  intro p e s m args below meth c s₁ B hml hv
  obtain ⟨rfl, hK, hW⟩ := hv
  have hx := B.exec
  have hb := B.bytes
  have hr := B.returns
  have hts := atoms_spec (ws := WS_X5_lengthOf) B.pre
  have htg : ∀ w ∈ wsG, w.before _ s = true := fun w h => hts w (List.mem_cons_of_mem _ h)
  have hown : s.vm.findClass RX5 = some m.cls := findClass_of_methodNamed B.named
  have hlocks := B.notSynchronized
  have hS : va_S (gF G) s.heap s.heap [] := va_S.rf
  have hl := lv_entry ([.int p0]) (n := 4) (Nat.le_of_ble_eq_true rfl)
  rw [lg_entry_eq]
  generalize (lg_sl ([.int p0]) ++ List.replicate (4 - (lg_sl ([.int p0])).length) Slot.unset).toArray = ls at hl ⊢
  have hl : lv_has ls 4 [(0, .int p0)] := hl
  have hX := h
  unfold m_X5_lengthOf at hX
  have B_6 : ∀ (k6 : Int32 → Int32 → Int32 → Option Int32) (hk6 : ∀ (x1 : Int32) (x2 : Int32) (x3 : Int32) (H : Heap) (locs : List Loc) (ls : Array Slot), Wh G x y H → va_S (gF G) s.heap H locs → lv_has ls 4 [(1, .int x1), (2, .int x2), (3, .int x3)] → k6 x1 x2 x3 = some r → W p l e (headSpec WS_X5_lengthOf RM_X5_lengthOf).room s m ([.int p0] : List Value).toArray below meth c H locs 0 0 (MQ below (Qi G x y r) ([.int p0] : List Value).toArray s 0 0 (gF G)) (F0 m 6 ls [])), ∀ (x1 : Int32) (x2 : Int32) (x3 : Int32) (H : Heap) (locs : List Loc) (ls : Array Slot), Wh G x y H → va_S (gF G) s.heap H locs → lv_has ls 4 [(1, .int x1), (2, .int x2), (3, .int x3)] → m_X5_lengthOf_b6 p0 k6 x1 x2 x3 = some r → W p l e (headSpec WS_X5_lengthOf RM_X5_lengthOf).room s m ([.int p0] : List Value).toArray below meth c H locs 0 0 (MQ below (Qi G x y r) ([.int p0] : List Value).toArray s 0 0 (gF G)) (F0 m 6 ls []) := by
    intro k6 hk6 x1 x2 x3 H locs ls hW hS hl hX
    unfold m_X5_lengthOf_b6 at hX
    refine lv_iload_n hx hb dX5_lengthOf_6 rfl (lv_at hl 2 rfl) ?_
    refine lv_iconst (v := (5 : Int32)) hx hb dX5_lengthOf_7 (by decide) ?_
    refine lv_icmp_ge (tgt := 29) hx hb dX5_lengthOf_8 (by decide) (fun c4 => ?_) (fun c4 => ?_)
    · have hX := it_t hX c4
      refine lv_iload_n hx hb dX5_lengthOf_29 rfl (lv_at hl 1 rfl) ?_
      have hX := Option.some.inj hX
      subst hX
      exact rt_i hx hb hr hlocks hW hS dX5_lengthOf_30
    · have hX := it_f hX c4
      refine lv_iload_n hx hb dX5_lengthOf_11 rfl (lv_at hl 0 rfl) ?_
      refine lv_if_le (tgt := 29) hx hb dX5_lengthOf_12 (by decide) (fun c5 => ?_) (fun c5 => ?_)
      · have hX := it_t hX c5
        refine lv_iload_n hx hb dX5_lengthOf_29 rfl (lv_at hl 1 rfl) ?_
        have hX := Option.some.inj hX
        subst hX
        exact rt_i hx hb hr hlocks hW hS dX5_lengthOf_30
      · have hX := it_f hX c5
        obtain ⟨x2_6, e9⟩ : ∃ w : Int32, w = (x2 + (1 : Int32)) := ⟨_, rfl⟩
        have hX := lt_go hX e9
        refine lv_iinc (v := x2_6) (lv' := [(2, .int x2_6), (1, .int x1), (3, .int x3)]) hx hb dX5_lengthOf_15 hl (k := 1) rfl (by rw [e9]; rfl) (by decide) rfl (fun ls hl => ?_)
        refine lv_iload_n hx hb dX5_lengthOf_18 rfl (lv_at hl 1 rfl) ?_
        refine lv_bipush (v := (10 : Int32)) hx hb dX5_lengthOf_19 (by decide) ?_
        refine lv_idiv hx hb dX5_lengthOf_21 (by decide) ?_
        refine lv_topi (fun x1_7 e9 => ?_)
        have hX := lt_go hX e9
        refine lv_istore_n (lv' := [(1, .int x1_7), (2, .int x2_6), (3, .int x3)]) hx hb dX5_lengthOf_22 rfl hl (by decide) rfl (fun ls hl => ?_)
        obtain ⟨x3_8, e9⟩ : ∃ w : Int32, w = (x3 + (1 : Int32)) := ⟨_, rfl⟩
        have hX := lt_go hX e9
        refine lv_iinc (v := x3_8) (lv' := [(3, .int x3_8), (1, .int x1_7), (2, .int x2_6)]) hx hb dX5_lengthOf_23 hl (k := 2) rfl (by rw [e9]; rfl) (by decide) rfl (fun ls hl => ?_)
        refine lv_goto (tgt := 6) hx hb dX5_lengthOf_26 (by decide) ?_
        exact hk6 _ _ _ _ _ _ hW hS (lv_sub hl [1, 2, 0] rfl) hX
  have L_6 : ∀ (n : Nat), ∀ (x1 : Int32) (x2 : Int32) (x3 : Int32) (H : Heap) (locs : List Loc) (ls : Array Slot), Wh G x y H → va_S (gF G) s.heap H locs → lv_has ls 4 [(1, .int x1), (2, .int x2), (3, .int x3)] → m_X5_lengthOf_l6 p0 n x1 x2 x3 = some r → W p l e (headSpec WS_X5_lengthOf RM_X5_lengthOf).room s m ([.int p0] : List Value).toArray below meth c H locs 0 0 (MQ below (Qi G x y r) ([.int p0] : List Value).toArray s 0 0 (gF G)) (F0 m 6 ls []) := by
    intro n
    induction n with
    | zero => intro x1 x2 x3 H locs ls hW hS hl hX; exact no_go hX
    | succ n ih => intro x1 x2 x3 H locs ls hW hS hl hX; exact B_6 _ ih _ _ _ _ _ _ hW hS hl hX
  refine lv_iload_n hx hb dX5_lengthOf_0 rfl (lv_at hl 0 rfl) ?_
  refine lv_topi (fun x1_1 e9 => ?_)
  have hX := lt_go hX e9
  refine lv_istore_n (lv' := [(1, .int x1_1), (0, .int p0)]) hx hb dX5_lengthOf_1 rfl hl (by decide) rfl (fun ls hl => ?_)
  refine lv_iconst (v := (0 : Int32)) hx hb dX5_lengthOf_2 (by decide) ?_
  refine lv_topi (fun x2_2 e9 => ?_)
  have hX := lt_go hX e9
  refine lv_istore_n (lv' := [(2, .int x2_2), (1, .int x1_1), (0, .int p0)]) hx hb dX5_lengthOf_3 rfl hl (by decide) rfl (fun ls hl => ?_)
  refine lv_iconst (v := (0 : Int32)) hx hb dX5_lengthOf_4 (by decide) ?_
  refine lv_topi (fun x3_3 e9 => ?_)
  have hX := lt_go hX e9
  refine lv_istore_n (lv' := [(3, .int x3_3), (2, .int x2_2), (1, .int x1_1), (0, .int p0)]) hx hb dX5_lengthOf_5 rfl hl (by decide) rfl (fun ls hl => ?_)
  exact L_6 FU _ _ _ _ _ _ hW hS (lv_sub hl [2, 1, 0] rfl) hX
set_option maxHeartbeats 4000000 in
theorem k_X5_lengthOf {p : Program} {l : Launch} {e : Env} {R : Room} {s : State} {m : MethodId} {args : Array Value} {below : List Frame} {meth : Method} {c : Code} {H : Heap} {locs : List Loc} {cells slots : Nat} {Q : State → Prop} {cc : ByteArray} {pc nL idx : Nat} {own : String} {ls : Array Slot} {rest : List Value} {G : Geo} {x y : Mem} {H0 : Heap} {p0 : Int32} {v : Int32} (hx : p.tables.exec = Jvm.exec) (hb : c.code = cc) (hml : c.maxLocals = nL) (hown : s.vm.findClass own = some m.cls) (htg : ∀ w ∈ wsG, w.before args s = true) (hK : Kt G s) (hW : Wh G x y H) (hS : va_S (gF G) H0 H locs) (h : m_X5_lengthOf p0 = some v) (hlk : Cond.methodLink own idx yX5_lengthOf ∈ wsG) (hn : ls.size = nL) (hr : (rest.map fun v => v.category).sum ≤ 8) (hR1 : 0 + 1 ≤ R.frames) (hR2 : 8 + (4 + 11) + 0 ≤ R.locals) (hf : cells ≤ R.cells ∧ slots ≤ R.slots) (hdg : decode cc pc = .ok (.invokestatic idx, 3)) (kk : ∀ (H1 : Heap) (locs1 : List Loc), Wh G x y H1 → va_S (gF G) H0 H1 locs1 → W p l e R s m args below meth c H1 locs1 cells slots Q (F0 m (pc + 3) ls (.int v :: rest))) : W p l e R s m args below meth c H locs cells slots Q (F0 m pc ls (.int p0 :: rest)) := by
  refine va_calli (va_runS (As := [.int p0]) (rest := rest) ⟨hx, hb, hml, hown, htg⟩ (c_X5_lengthOf l G x y p0 v h) (va_cwS 1 htg (gd_S hlk q559 q55 q560) rfl rfl rfl (by decide +kernel) ⟨hR1, hR2⟩) ⟨fun a U g mk q => ⟨q.1, q.2.1.calling, q.2.2⟩, fun U hU hW9 => ⟨rfl, hK.warm hW9, by rw [hU]; exact hW⟩⟩ rfl rfl hn rfl (lv_room hr) hdg hf) hS (fun _ _ h9 => h9) (fun _ h9 => h9) ?_
  intro r9 u t H1 locs1 ht hvm hw hB hz1 hk1 hS1
  replace hB : Wh G x y t.heap := hB
  rw [ht] at hB
  replace hw : r9 = v := hw
  subst hw
  exact kk H1 locs1 hB hS1
