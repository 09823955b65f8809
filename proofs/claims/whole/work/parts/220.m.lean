/-! METHOD X12_isQuiet -/
def m_X12_isQuiet_b2 (k2 : Int32 → Mem → Option Int32) (x1 : Int32) (y : Mem) : Option Int32 :=
  if (3 : Int32) ≤ x1 then (some (1 : Int32)) else (gd_ x1 3 (if (y 114 0 0 x1.toNatClampNeg) = 0 then (if (y 111 0 0 x1.toNatClampNeg) ≤ 0 then (lt_ (x1 + (1 : Int32)) fun x1_6 => k2 x1_6 y) else (some (0 : Int32))) else (some (0 : Int32))))
def m_X12_isQuiet_l2 : Nat → Int32 → Mem → Option Int32
  | 0, _, _ => none
  | n + 1, x1, y => m_X12_isQuiet_b2 (m_X12_isQuiet_l2 n) x1 y
def m_X12_isQuiet (y : Mem) : Option Int32 :=
  lt_ (0 : Int32) fun x1_1 => m_X12_isQuiet_l2 FU x1_1 y
abbrev WS_X12_isQuiet : List Cond := .code yX12_isQuiet cX12_isQuiet 2 (some .boolean) :: wsG
abbrev RM_X12_isQuiet : Room := { frames := 0, cells := 0, slots := 0, locals := 0 }
set_option maxHeartbeats 4000000 in
set_option maxRecDepth 100000 in
theorem c_X12_isQuiet (l : Launch) (G : Geo) (x y : Mem) (r : Int32) (h : m_X12_isQuiet y = some r) : Met l yX12_isQuiet WS_X12_isQuiet RM_X12_isQuiet (Pw G x y [.ref (gA G 40 0 0)]) (Qi G x y r) 0 0 (gF G) := by
  refine Met.ofW (cc := cX12_isQuiet) (maxL := 2) (ret := (some .boolean)) (by decide) rfl ?_
  intro p e s m args below meth c s₁ B hml hv
  obtain ⟨rfl, hK, hW⟩ := hv
  have hx := B.exec
  have hb := B.bytes
  have hr := B.returns
  have hts := atoms_spec (ws := WS_X12_isQuiet) B.pre
  have htg : ∀ w ∈ wsG, w.before _ s = true := fun w h => hts w (List.mem_cons_of_mem _ h)
  have hown : s.vm.findClass RX12 = some m.cls := findClass_of_methodNamed B.named
  have hlocks := B.notSynchronized
  have hS : va_S (gF G) s.heap s.heap [] := va_S.rf
  have hl := lv_entry ([.ref (gA G 40 0 0)]) (n := 2) (Nat.le_of_ble_eq_true rfl)
  rw [lg_entry_eq]
  generalize (lg_sl ([.ref (gA G 40 0 0)]) ++ List.replicate (2 - (lg_sl ([.ref (gA G 40 0 0)])).length) Slot.unset).toArray = ls at hl ⊢
  have hl : lv_has ls 2 [(0, .ref (gA G 40 0 0))] := hl
  have hX := h
  unfold m_X12_isQuiet at hX
  have B_2 : ∀ (k2 : Int32 → Mem → Option Int32) (hk2 : ∀ (x1 : Int32) (y : Mem) (H : Heap) (locs : List Loc) (ls : Array Slot), Wh G x y H → va_S (gF G) s.heap H locs → lv_has ls 2 [(0, .ref (gA G 40 0 0)), (1, .int x1)] → k2 x1 y = some r → W p l e (headSpec WS_X12_isQuiet RM_X12_isQuiet).room s m ([.ref (gA G 40 0 0)] : List Value).toArray below meth c H locs 0 0 (MQ below (Qi G x y r) ([.ref (gA G 40 0 0)] : List Value).toArray s 0 0 (gF G)) (F0 m 2 ls [])), ∀ (x1 : Int32) (y : Mem) (H : Heap) (locs : List Loc) (ls : Array Slot), Wh G x y H → va_S (gF G) s.heap H locs → lv_has ls 2 [(0, .ref (gA G 40 0 0)), (1, .int x1)] → m_X12_isQuiet_b2 k2 x1 y = some r → W p l e (headSpec WS_X12_isQuiet RM_X12_isQuiet).room s m ([.ref (gA G 40 0 0)] : List Value).toArray below meth c H locs 0 0 (MQ below (Qi G x y r) ([.ref (gA G 40 0 0)] : List Value).toArray s 0 0 (gF G)) (F0 m 2 ls []) := by
    intro k2 hk2 x1 y H locs ls hW hS hl hX
    unfold m_X12_isQuiet_b2 at hX
    refine lv_iload_n hx hb dX12_isQuiet_2 rfl (lv_at hl 1 rfl) ?_
    refine lv_iconst (v := (3 : Int32)) hx hb dX12_isQuiet_3 (by decide) ?_
    refine lv_icmp_ge (tgt := 33) hx hb dX12_isQuiet_4 (by decide) (fun c2 => ?_) (fun c2 => ?_)
    · have hX := it_t hX c2
      refine lv_iconst (v := (1 : Int32)) hx hb dX12_isQuiet_33 (by decide) ?_
      have hX := Option.some.inj hX
      subst hX
      exact rt_z hx hb hr hlocks hW hS nb1 dX12_isQuiet_34
    · have hX := it_f hX c2
      refine lv_aload_n hx hb dX12_isQuiet_7 rfl (lv_at hl 0 rfl) ?_
      refine gf_40_14 hx hb htg hown hK hW q149 dX12_isQuiet_8 ?_
      refine lv_iload_n hx hb dX12_isQuiet_11 rfl (lv_at hl 1 rfl) ?_
      obtain ⟨g3, hX⟩ := gd_go hX
      refine al_114 hx hb hK hW g3 dX12_isQuiet_12 ?_
      refine lv_if_ne (tgt := 25) hx hb dX12_isQuiet_13 (by decide) (fun c4 => ?_) (fun c4 => ?_)
      · have hX := it_f hX c4
        refine lv_iconst (v := (0 : Int32)) hx hb dX12_isQuiet_25 (by decide) ?_
        have hX := Option.some.inj hX
        subst hX
        exact rt_z hx hb hr hlocks hW hS nb0 dX12_isQuiet_26
      · have hX := it_t hX c4
        refine lv_aload_n hx hb dX12_isQuiet_16 rfl (lv_at hl 0 rfl) ?_
        refine gf_40_11 hx hb htg hown hK hW q146 dX12_isQuiet_17 ?_
        refine lv_iload_n hx hb dX12_isQuiet_20 rfl (lv_at hl 1 rfl) ?_
        refine al_111 hx hb hK hW g3 dX12_isQuiet_21 ?_
        refine lv_if_le (tgt := 27) hx hb dX12_isQuiet_22 (by decide) (fun c5 => ?_) (fun c5 => ?_)
        · have hX := it_t hX c5
          obtain ⟨x1_6, e9⟩ : ∃ w : Int32, w = (x1 + (1 : Int32)) := ⟨_, rfl⟩
          have hX := lt_go hX e9
          refine lv_iinc (v := x1_6) (lv' := [(1, .int x1_6), (0, .ref (gA G 40 0 0))]) hx hb dX12_isQuiet_27 hl (k := 1) rfl (by rw [e9]; rfl) (by decide) rfl (fun ls hl => ?_)
          refine lv_goto (tgt := 2) hx hb dX12_isQuiet_30 (by decide) ?_
          exact hk2 _ _ _ _ _ hW hS (lv_sub hl [1, 0] rfl) hX
        · have hX := it_f hX c5
          refine lv_iconst (v := (0 : Int32)) hx hb dX12_isQuiet_25 (by decide) ?_
          have hX := Option.some.inj hX
          subst hX
          exact rt_z hx hb hr hlocks hW hS nb0 dX12_isQuiet_26
  have L_2 : ∀ (n : Nat), ∀ (x1 : Int32) (y : Mem) (H : Heap) (locs : List Loc) (ls : Array Slot), Wh G x y H → va_S (gF G) s.heap H locs → lv_has ls 2 [(0, .ref (gA G 40 0 0)), (1, .int x1)] → m_X12_isQuiet_l2 n x1 y = some r → W p l e (headSpec WS_X12_isQuiet RM_X12_isQuiet).room s m ([.ref (gA G 40 0 0)] : List Value).toArray below meth c H locs 0 0 (MQ below (Qi G x y r) ([.ref (gA G 40 0 0)] : List Value).toArray s 0 0 (gF G)) (F0 m 2 ls []) := by
    intro n
    induction n with
    | zero => intro x1 y H locs ls hW hS hl hX; exact no_go hX
    | succ n ih => intro x1 y H locs ls hW hS hl hX; exact B_2 _ ih _ _ _ _ _ hW hS hl hX
  refine lv_iconst (v := (0 : Int32)) hx hb dX12_isQuiet_0 (by decide) ?_
  refine lv_topi (fun x1_1 e9 => ?_)
  have hX := lt_go hX e9
  refine lv_istore_n (lv' := [(1, .int x1_1), (0, .ref (gA G 40 0 0))]) hx hb dX12_isQuiet_1 rfl hl (by decide) rfl (fun ls hl => ?_)
  exact L_2 FU _ _ _ _ _ hW hS (lv_sub hl [1, 0] rfl) hX
set_option maxHeartbeats 4000000 in
theorem k_X12_isQuiet {p : Program} {l : Launch} {e : Env} {R : Room} {s : State} {m : MethodId} {args : Array Value} {below : List Frame} {meth : Method} {c : Code} {H : Heap} {locs : List Loc} {cells slots : Nat} {Q : State → Prop} {cc : ByteArray} {pc nL idx : Nat} {own : String} {ls : Array Slot} {rest : List Value} {G : Geo} {x y : Mem} {H0 : Heap} {v : Int32} (hx : p.tables.exec = Jvm.exec) (hb : c.code = cc) (hml : c.maxLocals = nL) (hown : s.vm.findClass own = some m.cls) (htg : ∀ w ∈ wsG, w.before args s = true) (hK : Kt G s) (hW : Wh G x y H) (hS : va_S (gF G) H0 H locs) (h : m_X12_isQuiet y = some v) (hlk : Cond.methodLink own idx yX12_isQuiet ∈ wsG) (hn : ls.size = nL) (hr : (rest.map fun v => v.category).sum ≤ 8) (hR1 : 0 + 1 ≤ R.frames) (hR2 : 8 + (2 + 11) + 0 ≤ R.locals) (hf : cells ≤ R.cells ∧ slots ≤ R.slots) (hdg : decode cc pc = .ok (.invokevirtual idx, 3)) (kk : ∀ (H1 : Heap) (locs1 : List Loc), Wh G x y H1 → va_S (gF G) H0 H1 locs1 → W p l e R s m args below meth c H1 locs1 cells slots Q (F0 m (pc + 3) ls (.int v :: rest))) : W p l e R s m args below meth c H locs cells slots Q (F0 m pc ls (.ref (gA G 40 0 0) :: rest)) := by
  refine va_calli (va_runV (As := []) (rest := rest) ⟨hx, hb, hml, hown, htg⟩ (c_X12_isQuiet l G x y v h) (cwV 0 htg (gd_V hlk q953 q954 q5 q955) rfl rfl rfl (by decide +kernel) ⟨hR1, hR2⟩) ⟨fun a U g mk q => ⟨q.1, q.2.1.calling, q.2.2⟩, rc_40 hK hW, fun U hU hW9 => ⟨rfl, hK.warm hW9, by rw [hU]; exact hW⟩⟩ rfl rfl hn rfl (lv_room hr) hdg hf) hS (fun _ _ h9 => h9) (fun _ h9 => h9) ?_
  intro r9 u t H1 locs1 ht hvm hw hB hz1 hk1 hS1
  replace hB : Wh G x y t.heap := hB
  rw [ht] at hB
  replace hw : r9 = v := hw
  subst hw
  exact kk H1 locs1 hB hS1
/-! METHOD X12_findsEnd -/
def m_X12_findsEnd_j53 (p0 : Int32) (x2 : Int32) (y : Mem) : Option (Int32 × Mem) :=
  bd_ (m_X12_passAll (157, 0, 0) 573 (0 : Int32) (0 : Int32) y) fun y14 => some (x2, y14)
def m_X12_findsEnd_j43 (p0 : Int32) (k12 : Int32 → Mem → Option (Int32 × Mem)) (x2 : Int32) (y : Mem) : Option (Int32 × Mem) :=
  bd_ (m_X12_ticks y) fun y17 => lt_ (x2 + (1 : Int32)) fun x2_18 => k12 x2_18 y17
def m_X12_findsEnd_b12 (p0 : Int32) (k12 : Int32 → Mem → Option (Int32 × Mem)) (x2 : Int32) (y : Mem) : Option (Int32 × Mem) :=
  if (200 : Int32) < x2 then (m_X12_findsEnd_j53 p0 x2 y) else (if 0 ≤ p0 then (gd_ p0 30 (if (y 129 0 0 p0.toNatClampNeg) = (2 : Int32) then (m_X12_findsEnd_j53 p0 x2 y) else (m_X12_findsEnd_j43 p0 k12 x2 y))) else (bd_ (m_X12_isQuiet y) fun r10 => if r10 = 0 then (m_X12_findsEnd_j43 p0 k12 x2 y) else (m_X12_findsEnd_j53 p0 x2 y)))
def m_X12_findsEnd_l12 (p0 : Int32) : Nat → Int32 → Mem → Option (Int32 × Mem)
  | 0, _, _ => none
  | n + 1, x2, y => m_X12_findsEnd_b12 p0 (m_X12_findsEnd_l12 p0 n) x2 y
def m_X12_findsEnd (p0 : Int32) (y : Mem) : Option (Int32 × Mem) :=
  bd_ (m_X12_passAll (157, 0, 0) 573 (0 : Int32) (1 : Int32) y) fun y3 => lt_ (0 : Int32) fun x2_4 => m_X12_findsEnd_l12 p0 FU x2_4 y3
abbrev WS_X12_findsEnd : List Cond := .code yX12_findsEnd cX12_findsEnd 3 (some .int) :: wsG
abbrev RM_X12_findsEnd : Room := { frames := 9, cells := 0, slots := 0, locals := 206 }
set_option maxHeartbeats 4000000 in
set_option maxRecDepth 100000 in
theorem c_X12_findsEnd (l : Launch) (G : Geo) (x y : Mem) (p0 : Int32) (r : (Int32 × Mem)) (h : m_X12_findsEnd p0 y = some r) : Met l yX12_findsEnd WS_X12_findsEnd RM_X12_findsEnd (Pw G x y [.ref (gA G 40 0 0), .int p0]) (Qi G x r.2 r.1) 0 0 (gF G) := by
  refine Met.ofW (cc := cX12_findsEnd) (maxL := 3) (ret := (some .int)) (by decide) rfl ?_
  intro p e s m args below meth c s₁ B hml hv
  obtain ⟨rfl, hK, hW⟩ := hv
  have hx := B.exec
  have hb := B.bytes
  have hr := B.returns
  have hts := atoms_spec (ws := WS_X12_findsEnd) B.pre
  have htg : ∀ w ∈ wsG, w.before _ s = true := fun w h => hts w (List.mem_cons_of_mem _ h)
  have hown : s.vm.findClass RX12 = some m.cls := findClass_of_methodNamed B.named
  have hlocks := B.notSynchronized
  have hS : va_S (gF G) s.heap s.heap [] := va_S.rf
  have hl := lv_entry ([.ref (gA G 40 0 0), .int p0]) (n := 3) (Nat.le_of_ble_eq_true rfl)
  rw [lg_entry_eq]
  generalize (lg_sl ([.ref (gA G 40 0 0), .int p0]) ++ List.replicate (3 - (lg_sl ([.ref (gA G 40 0 0), .int p0])).length) Slot.unset).toArray = ls at hl ⊢
  have hl : lv_has ls 3 [(0, .ref (gA G 40 0 0)), (1, .int p0)] := hl
  have hX := h
  unfold m_X12_findsEnd at hX
  have J_53 : ∀ (x2 : Int32) (y : Mem) (H : Heap) (locs : List Loc) (ls : Array Slot), Wh G x y H → va_S (gF G) s.heap H locs → lv_has ls 3 [(0, .ref (gA G 40 0 0)), (2, .int x2)] → m_X12_findsEnd_j53 p0 x2 y = some r → W p l e (headSpec WS_X12_findsEnd RM_X12_findsEnd).room s m ([.ref (gA G 40 0 0), .int p0] : List Value).toArray below meth c H locs 0 0 (MQ below (Qi G x r.2 r.1) ([.ref (gA G 40 0 0), .int p0] : List Value).toArray s 0 0 (gF G)) (F0 m 53 ls []) := by
    intro x2 y H locs ls hW hS hl hX
    unfold m_X12_findsEnd_j53 at hX
    refine lv_aload_n hx hb dX12_findsEnd_53 rfl (lv_at hl 0 rfl) ?_
    refine lv_aload_n hx hb dX12_findsEnd_54 rfl (lv_at hl 0 rfl) ?_
    refine gf_40_57 hx hb htg hown hK hW q177 dX12_findsEnd_55 ?_
    refine lv_iconst (v := (0 : Int32)) hx hb dX12_findsEnd_58 (by decide) ?_
    refine lv_iconst (v := (0 : Int32)) hx hb dX12_findsEnd_59 (by decide) ?_
    obtain ⟨y14, h12, hX⟩ := bd_go hX
    refine k_X12_passAll hx hb hml hown htg hK hW hS (ia_157) (show ¬ (157 : Nat) < 40 by decide) h12 q346 hl.1 (Nat.le_of_ble_eq_true rfl) (Nat.le_of_ble_eq_true rfl) (Nat.le_of_ble_eq_true rfl) ⟨Nat.zero_le _, Nat.zero_le _⟩ dX12_findsEnd_60 (fun H locs hW hS => ?_)
    refine lv_iload_n hx hb dX12_findsEnd_63 rfl (lv_at hl 1 rfl) ?_
    have hX := Option.some.inj hX
    subst hX
    exact rt_i hx hb hr hlocks hW hS dX12_findsEnd_64
  have J_43 : ∀ (k12 : Int32 → Mem → Option (Int32 × Mem)) (hk12 : ∀ (x2 : Int32) (y : Mem) (H : Heap) (locs : List Loc) (ls : Array Slot), Wh G x y H → va_S (gF G) s.heap H locs → lv_has ls 3 [(0, .ref (gA G 40 0 0)), (1, .int p0), (2, .int x2)] → k12 x2 y = some r → W p l e (headSpec WS_X12_findsEnd RM_X12_findsEnd).room s m ([.ref (gA G 40 0 0), .int p0] : List Value).toArray below meth c H locs 0 0 (MQ below (Qi G x r.2 r.1) ([.ref (gA G 40 0 0), .int p0] : List Value).toArray s 0 0 (gF G)) (F0 m 12 ls [])), ∀ (x2 : Int32) (y : Mem) (H : Heap) (locs : List Loc) (ls : Array Slot), Wh G x y H → va_S (gF G) s.heap H locs → lv_has ls 3 [(0, .ref (gA G 40 0 0)), (1, .int p0), (2, .int x2)] → m_X12_findsEnd_j43 p0 k12 x2 y = some r → W p l e (headSpec WS_X12_findsEnd RM_X12_findsEnd).room s m ([.ref (gA G 40 0 0), .int p0] : List Value).toArray below meth c H locs 0 0 (MQ below (Qi G x r.2 r.1) ([.ref (gA G 40 0 0), .int p0] : List Value).toArray s 0 0 (gF G)) (F0 m 43 ls []) := by
    intro k12 hk12 x2 y H locs ls hW hS hl hX
    unfold m_X12_findsEnd_j43 at hX
    refine lv_aload_n hx hb dX12_findsEnd_43 rfl (lv_at hl 0 rfl) ?_
    obtain ⟨y17, h15, hX⟩ := bd_go hX
    refine k_X12_ticks hx hb hml hown htg hK hW hS h15 q840 hl.1 (Nat.le_of_ble_eq_true rfl) (Nat.le_of_ble_eq_true rfl) (Nat.le_of_ble_eq_true rfl) ⟨Nat.zero_le _, Nat.zero_le _⟩ dX12_findsEnd_44 (fun H locs hW hS => ?_)
    obtain ⟨x2_18, e9⟩ : ∃ w : Int32, w = (x2 + (1 : Int32)) := ⟨_, rfl⟩
    have hX := lt_go hX e9
    refine lv_iinc (v := x2_18) (lv' := [(2, .int x2_18), (0, .ref (gA G 40 0 0)), (1, .int p0)]) hx hb dX12_findsEnd_47 hl (k := 2) rfl (by rw [e9]; rfl) (by decide) rfl (fun ls hl => ?_)
    refine lv_goto (tgt := 12) hx hb dX12_findsEnd_50 (by decide) ?_
    exact hk12 _ _ _ _ _ hW hS (lv_sub hl [1, 2, 0] rfl) hX
  have B_12 : ∀ (k12 : Int32 → Mem → Option (Int32 × Mem)) (hk12 : ∀ (x2 : Int32) (y : Mem) (H : Heap) (locs : List Loc) (ls : Array Slot), Wh G x y H → va_S (gF G) s.heap H locs → lv_has ls 3 [(0, .ref (gA G 40 0 0)), (1, .int p0), (2, .int x2)] → k12 x2 y = some r → W p l e (headSpec WS_X12_findsEnd RM_X12_findsEnd).room s m ([.ref (gA G 40 0 0), .int p0] : List Value).toArray below meth c H locs 0 0 (MQ below (Qi G x r.2 r.1) ([.ref (gA G 40 0 0), .int p0] : List Value).toArray s 0 0 (gF G)) (F0 m 12 ls [])), ∀ (x2 : Int32) (y : Mem) (H : Heap) (locs : List Loc) (ls : Array Slot), Wh G x y H → va_S (gF G) s.heap H locs → lv_has ls 3 [(0, .ref (gA G 40 0 0)), (1, .int p0), (2, .int x2)] → m_X12_findsEnd_b12 p0 k12 x2 y = some r → W p l e (headSpec WS_X12_findsEnd RM_X12_findsEnd).room s m ([.ref (gA G 40 0 0), .int p0] : List Value).toArray below meth c H locs 0 0 (MQ below (Qi G x r.2 r.1) ([.ref (gA G 40 0 0), .int p0] : List Value).toArray s 0 0 (gF G)) (F0 m 12 ls []) := by
    intro k12 hk12 x2 y H locs ls hW hS hl hX
    unfold m_X12_findsEnd_b12 at hX
    refine lv_iload_n hx hb dX12_findsEnd_12 rfl (lv_at hl 2 rfl) ?_
    refine lv_sipush (v := (200 : Int32)) hx hb dX12_findsEnd_13 (by decide) ?_
    refine lv_icmp_gt (tgt := 53) hx hb dX12_findsEnd_16 (by decide) (fun c5 => ?_) (fun c5 => ?_)
    · have hX := it_t hX c5
      exact J_53 _ _ _ _ _ hW hS (lv_sub hl [0, 2] rfl) hX
    · have hX := it_f hX c5
      refine lv_iload_n hx hb dX12_findsEnd_19 rfl (lv_at hl 1 rfl) ?_
      refine lv_if_ge (tgt := 33) hx hb dX12_findsEnd_20 (by decide) (fun c6 => ?_) (fun c6 => ?_)
      · have hX := it_t hX c6
        refine lv_aload_n hx hb dX12_findsEnd_33 rfl (lv_at hl 0 rfl) ?_
        refine gf_40_29 hx hb htg hown hK hW q164 dX12_findsEnd_34 ?_
        refine lv_iload_n hx hb dX12_findsEnd_37 rfl (lv_at hl 1 rfl) ?_
        obtain ⟨g7, hX⟩ := gd_go hX
        refine al_129 hx hb hK hW g7 dX12_findsEnd_38 ?_
        refine lv_iconst (v := (2 : Int32)) hx hb dX12_findsEnd_39 (by decide) ?_
        refine lv_icmp_eq (tgt := 53) hx hb dX12_findsEnd_40 (by decide) (fun c8 => ?_) (fun c8 => ?_)
        · have hX := it_t hX c8
          exact J_53 _ _ _ _ _ hW hS (lv_sub hl [0, 2] rfl) hX
        · have hX := it_f hX c8
          exact J_43 k12 hk12 _ _ _ _ _ hW hS (lv_sub hl [0, 1, 2] rfl) hX
      · have hX := it_f hX c6
        refine lv_aload_n hx hb dX12_findsEnd_23 rfl (lv_at hl 0 rfl) ?_
        obtain ⟨r10, h9, hX⟩ := bd_go hX
        refine k_X12_isQuiet hx hb hml hown htg hK hW hS h9 q952 hl.1 (Nat.le_of_ble_eq_true rfl) (Nat.le_of_ble_eq_true rfl) (Nat.le_of_ble_eq_true rfl) ⟨Nat.zero_le _, Nat.zero_le _⟩ dX12_findsEnd_24 (fun H locs hW hS => ?_)
        refine lv_if_eq (tgt := 43) hx hb dX12_findsEnd_27 (by decide) (fun c11 => ?_) (fun c11 => ?_)
        · have hX := it_t hX c11
          exact J_43 k12 hk12 _ _ _ _ _ hW hS (lv_sub hl [0, 1, 2] rfl) hX
        · have hX := it_f hX c11
          refine lv_goto (tgt := 53) hx hb dX12_findsEnd_30 (by decide) ?_
          exact J_53 _ _ _ _ _ hW hS (lv_sub hl [0, 2] rfl) hX
  have L_12 : ∀ (n : Nat), ∀ (x2 : Int32) (y : Mem) (H : Heap) (locs : List Loc) (ls : Array Slot), Wh G x y H → va_S (gF G) s.heap H locs → lv_has ls 3 [(0, .ref (gA G 40 0 0)), (1, .int p0), (2, .int x2)] → m_X12_findsEnd_l12 p0 n x2 y = some r → W p l e (headSpec WS_X12_findsEnd RM_X12_findsEnd).room s m ([.ref (gA G 40 0 0), .int p0] : List Value).toArray below meth c H locs 0 0 (MQ below (Qi G x r.2 r.1) ([.ref (gA G 40 0 0), .int p0] : List Value).toArray s 0 0 (gF G)) (F0 m 12 ls []) := by
    intro n
    induction n with
    | zero => intro x2 y H locs ls hW hS hl hX; exact no_go hX
    | succ n ih => intro x2 y H locs ls hW hS hl hX; exact B_12 _ ih _ _ _ _ _ hW hS hl hX
  refine lv_aload_n hx hb dX12_findsEnd_0 rfl (lv_at hl 0 rfl) ?_
  refine lv_aload_n hx hb dX12_findsEnd_1 rfl (lv_at hl 0 rfl) ?_
  refine gf_40_57 hx hb htg hown hK hW q177 dX12_findsEnd_2 ?_
  refine lv_iconst (v := (0 : Int32)) hx hb dX12_findsEnd_5 (by decide) ?_
  refine lv_iconst (v := (1 : Int32)) hx hb dX12_findsEnd_6 (by decide) ?_
  obtain ⟨y3, h1, hX⟩ := bd_go hX
  refine k_X12_passAll hx hb hml hown htg hK hW hS (ia_157) (show ¬ (157 : Nat) < 40 by decide) h1 q346 hl.1 (Nat.le_of_ble_eq_true rfl) (Nat.le_of_ble_eq_true rfl) (Nat.le_of_ble_eq_true rfl) ⟨Nat.zero_le _, Nat.zero_le _⟩ dX12_findsEnd_7 (fun H locs hW hS => ?_)
  refine lv_iconst (v := (0 : Int32)) hx hb dX12_findsEnd_10 (by decide) ?_
  refine lv_topi (fun x2_4 e9 => ?_)
  have hX := lt_go hX e9
  refine lv_istore_n (lv' := [(2, .int x2_4), (0, .ref (gA G 40 0 0)), (1, .int p0)]) hx hb dX12_findsEnd_11 rfl hl (by decide) rfl (fun ls hl => ?_)
  exact L_12 FU _ _ _ _ _ hW hS (lv_sub hl [1, 2, 0] rfl) hX
set_option maxHeartbeats 4000000 in
theorem k_X12_findsEnd {p : Program} {l : Launch} {e : Env} {R : Room} {s : State} {m : MethodId} {args : Array Value} {below : List Frame} {meth : Method} {c : Code} {H : Heap} {locs : List Loc} {cells slots : Nat} {Q : State → Prop} {cc : ByteArray} {pc nL idx : Nat} {own : String} {ls : Array Slot} {rest : List Value} {G : Geo} {x y : Mem} {H0 : Heap} {p0 : Int32} {v : Int32} {z : Mem} (hx : p.tables.exec = Jvm.exec) (hb : c.code = cc) (hml : c.maxLocals = nL) (hown : s.vm.findClass own = some m.cls) (htg : ∀ w ∈ wsG, w.before args s = true) (hK : Kt G s) (hW : Wh G x y H) (hS : va_S (gF G) H0 H locs) (h : m_X12_findsEnd p0 y = some (v, z)) (hlk : Cond.methodLink own idx yX12_findsEnd ∈ wsG) (hn : ls.size = nL) (hr : (rest.map fun v => v.category).sum ≤ 8) (hR1 : 9 + 1 ≤ R.frames) (hR2 : 8 + (3 + 11) + 206 ≤ R.locals) (hf : cells ≤ R.cells ∧ slots ≤ R.slots) (hdg : decode cc pc = .ok (.invokevirtual idx, 3)) (kk : ∀ (H1 : Heap) (locs1 : List Loc), Wh G x z H1 → va_S (gF G) H0 H1 locs1 → W p l e R s m args below meth c H1 locs1 cells slots Q (F0 m (pc + 3) ls (.int v :: rest))) : W p l e R s m args below meth c H locs cells slots Q (F0 m pc ls (.int p0 :: .ref (gA G 40 0 0) :: rest)) := by
  refine va_calli (va_runV (As := [.int p0]) (rest := rest) ⟨hx, hb, hml, hown, htg⟩ (c_X12_findsEnd l G x y p0 (v, z) h) (cwV 1 htg (gd_V hlk q949 q950 q5 q951) rfl rfl rfl (by decide +kernel) ⟨hR1, hR2⟩) ⟨fun a U g mk q => ⟨q.1, q.2.1.calling, q.2.2⟩, rc_40 hK hW, fun U hU hW9 => ⟨rfl, hK.warm hW9, by rw [hU]; exact hW⟩⟩ rfl rfl hn rfl (lv_room hr) hdg hf) hS (fun _ _ h9 => h9) (fun _ h9 => h9) ?_
  intro r9 u t H1 locs1 ht hvm hw hB hz1 hk1 hS1
  replace hB : Wh G x z t.heap := hB
  rw [ht] at hB
  replace hw : r9 = v := hw
  subst hw
  exact kk H1 locs1 hB hS1
/-! METHOD X12_endsAfter -/
def m_X12_endsAfter_j49 (p0 : Int32) (x2 : Int32) (s0 : Int32) (y : Mem) : Option (Int32 × Mem) :=
  lt_ (up4 y 40 0 0 0 s0) fun y17 => if x2 ≤ (200 : Int32) then (some (x2, y17)) else (some ((0 : Int32), y17))
def m_X12_endsAfter (p0 : Int32) (y : Mem) : Option (Int32 × Mem) :=
  bd_ (m_X12_isJob p0 y) fun r2 => if r2 = 0 then (bd2_ (m_X12_fails (1 : Int32) y) fun r15 y16 => some (r15, y16)) else (gd_ p0 30 (if (y 129 0 0 p0.toNatClampNeg) = (3 : Int32) then (bd2_ (m_X12_fails (2 : Int32) y) fun r12 y13 => some (r12, y13)) else (bd2_ (m_X12_findsEnd p0 y) fun r7 y8 => lt_ r7 fun x2_9 => if x2_9 ≤ (200 : Int32) then (m_X12_endsAfter_j49 p0 x2_9 (0 : Int32) y8) else (m_X12_endsAfter_j49 p0 x2_9 (2 : Int32) y8))))
abbrev WS_X12_endsAfter : List Cond := .code yX12_endsAfter cX12_endsAfter 3 (some .int) :: wsG
abbrev RM_X12_endsAfter : Room := { frames := 10, cells := 0, slots := 0, locals := 228 }
set_option maxHeartbeats 4000000 in
set_option maxRecDepth 100000 in
theorem c_X12_endsAfter (l : Launch) (G : Geo) (x y : Mem) (p0 : Int32) (r : (Int32 × Mem)) (h : m_X12_endsAfter p0 y = some r) : Met l yX12_endsAfter WS_X12_endsAfter RM_X12_endsAfter (Pw G x y [.ref (gA G 40 0 0), .int p0]) (Qi G x r.2 r.1) 0 0 (gF G) := by
  refine Met.ofW (cc := cX12_endsAfter) (maxL := 3) (ret := (some .int)) (by decide) rfl ?_
  intro p e s m args below meth c s₁ B hml hv
  obtain ⟨rfl, hK, hW⟩ := hv
  have hx := B.exec
  have hb := B.bytes
  have hr := B.returns
  have hts := atoms_spec (ws := WS_X12_endsAfter) B.pre
  have htg : ∀ w ∈ wsG, w.before _ s = true := fun w h => hts w (List.mem_cons_of_mem _ h)
  have hown : s.vm.findClass RX12 = some m.cls := findClass_of_methodNamed B.named
  have hlocks := B.notSynchronized
  have hS : va_S (gF G) s.heap s.heap [] := va_S.rf
  have hl := lv_entry ([.ref (gA G 40 0 0), .int p0]) (n := 3) (Nat.le_of_ble_eq_true rfl)
  rw [lg_entry_eq]
  generalize (lg_sl ([.ref (gA G 40 0 0), .int p0]) ++ List.replicate (3 - (lg_sl ([.ref (gA G 40 0 0), .int p0])).length) Slot.unset).toArray = ls at hl ⊢
  have hl : lv_has ls 3 [(0, .ref (gA G 40 0 0)), (1, .int p0)] := hl
  have hX := h
  unfold m_X12_endsAfter at hX
  have J_49 : ∀ (x2 : Int32) (s0 : Int32) (y : Mem) (H : Heap) (locs : List Loc) (ls : Array Slot), Wh G x y H → va_S (gF G) s.heap H locs → lv_has ls 3 [(2, .int x2)] → m_X12_endsAfter_j49 p0 x2 s0 y = some r → W p l e (headSpec WS_X12_endsAfter RM_X12_endsAfter).room s m ([.ref (gA G 40 0 0), .int p0] : List Value).toArray below meth c H locs 0 0 (MQ below (Qi G x r.2 r.1) ([.ref (gA G 40 0 0), .int p0] : List Value).toArray s 0 0 (gF G)) (F0 m 49 ls [.int s0, .ref (gA G 40 0 0)]) := by
    intro x2 s0 y H locs ls hW hS hl hX
    unfold m_X12_endsAfter_j49 at hX
    refine pf_40_0 hx hb htg hown hK hW hS q311 dX12_endsAfter_49 (fun H locs hW hS => ?_)
    obtain ⟨y17, e9⟩ : ∃ w : Mem, w = (up4 y 40 0 0 0 s0) := ⟨_, rfl⟩
    rw [← e9] at hW
    have hX := lt_go hX e9
    refine lv_iload_n hx hb dX12_endsAfter_52 rfl (lv_at hl 0 rfl) ?_
    refine lv_sipush (v := (200 : Int32)) hx hb dX12_endsAfter_53 (by decide) ?_
    refine lv_icmp_le (tgt := 63) hx hb dX12_endsAfter_56 (by decide) (fun c18 => ?_) (fun c18 => ?_)
    · have hX := it_t hX c18
      refine lv_iload_n hx hb dX12_endsAfter_63 rfl (lv_at hl 0 rfl) ?_
      have hX := Option.some.inj hX
      subst hX
      exact rt_i hx hb hr hlocks hW hS dX12_endsAfter_64
    · have hX := it_f hX c18
      refine lv_iconst (v := (0 : Int32)) hx hb dX12_endsAfter_59 (by decide) ?_
      refine lv_goto (tgt := 64) hx hb dX12_endsAfter_60 (by decide) ?_
      have hX := Option.some.inj hX
      subst hX
      exact rt_i hx hb hr hlocks hW hS dX12_endsAfter_64
  refine lv_aload_n hx hb dX12_endsAfter_0 rfl (lv_at hl 0 rfl) ?_
  refine lv_iload_n hx hb dX12_endsAfter_1 rfl (lv_at hl 1 rfl) ?_
  obtain ⟨r2, h1, hX⟩ := bd_go hX
  refine k_X12_isJob hx hb hml hown htg hK hW hS h1 q628 hl.1 (Nat.le_of_ble_eq_true rfl) (Nat.le_of_ble_eq_true rfl) (Nat.le_of_ble_eq_true rfl) ⟨Nat.zero_le _, Nat.zero_le _⟩ dX12_endsAfter_2 (fun H locs hW hS => ?_)
  refine lv_if_ne (tgt := 14) hx hb dX12_endsAfter_5 (by decide) (fun c3 => ?_) (fun c3 => ?_)
  · have hX := it_f hX c3
    refine lv_aload_n hx hb dX12_endsAfter_14 rfl (lv_at hl 0 rfl) ?_
    refine gf_40_29 hx hb htg hown hK hW q164 dX12_endsAfter_15 ?_
    refine lv_iload_n hx hb dX12_endsAfter_18 rfl (lv_at hl 1 rfl) ?_
    obtain ⟨g4, hX⟩ := gd_go hX
    refine al_129 hx hb hK hW g4 dX12_endsAfter_19 ?_
    refine lv_iconst (v := (3 : Int32)) hx hb dX12_endsAfter_20 (by decide) ?_
    refine lv_icmp_ne (tgt := 30) hx hb dX12_endsAfter_21 (by decide) (fun c5 => ?_) (fun c5 => ?_)
    · have hX := it_f hX c5
      refine lv_aload_n hx hb dX12_endsAfter_30 rfl (lv_at hl 0 rfl) ?_
      refine lv_iload_n hx hb dX12_endsAfter_31 rfl (lv_at hl 1 rfl) ?_
      obtain ⟨r7, y8, h6, hX⟩ := bd2_go hX
      refine k_X12_findsEnd hx hb hml hown htg hK hW hS h6 q948 hl.1 (Nat.le_of_ble_eq_true rfl) (Nat.le_of_ble_eq_true rfl) (Nat.le_of_ble_eq_true rfl) ⟨Nat.zero_le _, Nat.zero_le _⟩ dX12_endsAfter_32 (fun H locs hW hS => ?_)
      refine lv_topi (fun x2_9 e9 => ?_)
      have hX := lt_go hX e9
      refine lv_istore_n (lv' := [(2, .int x2_9), (0, .ref (gA G 40 0 0)), (1, .int p0)]) hx hb dX12_endsAfter_35 rfl hl (by decide) rfl (fun ls hl => ?_)
      refine lv_aload_n hx hb dX12_endsAfter_36 rfl (lv_at hl 1 rfl) ?_
      refine lv_iload_n hx hb dX12_endsAfter_37 rfl (lv_at hl 0 rfl) ?_
      refine lv_sipush (v := (200 : Int32)) hx hb dX12_endsAfter_38 (by decide) ?_
      refine lv_icmp_le (tgt := 48) hx hb dX12_endsAfter_41 (by decide) (fun c10 => ?_) (fun c10 => ?_)
      · have hX := it_t hX c10
        refine lv_iconst (v := (0 : Int32)) hx hb dX12_endsAfter_48 (by decide) ?_
        exact J_49 _ _ _ _ _ _ hW hS (lv_sub hl [0] rfl) hX
      · have hX := it_f hX c10
        refine lv_iconst (v := (2 : Int32)) hx hb dX12_endsAfter_44 (by decide) ?_
        refine lv_goto (tgt := 49) hx hb dX12_endsAfter_45 (by decide) ?_
        exact J_49 _ _ _ _ _ _ hW hS (lv_sub hl [0] rfl) hX
    · have hX := it_t hX c5
      refine lv_aload_n hx hb dX12_endsAfter_24 rfl (lv_at hl 0 rfl) ?_
      refine lv_iconst (v := (2 : Int32)) hx hb dX12_endsAfter_25 (by decide) ?_
      obtain ⟨r12, y13, h11, hX⟩ := bd2_go hX
      refine k_X12_fails hx hb hml hown htg hK hW hS h11 q407 hl.1 (Nat.le_of_ble_eq_true rfl) (Nat.le_of_ble_eq_true rfl) (Nat.le_of_ble_eq_true rfl) ⟨Nat.zero_le _, Nat.zero_le _⟩ dX12_endsAfter_26 (fun H locs hW hS => ?_)
      have hX := Option.some.inj hX
      subst hX
      exact rt_i hx hb hr hlocks hW hS dX12_endsAfter_29
  · have hX := it_t hX c3
    refine lv_aload_n hx hb dX12_endsAfter_8 rfl (lv_at hl 0 rfl) ?_
    refine lv_iconst (v := (1 : Int32)) hx hb dX12_endsAfter_9 (by decide) ?_
    obtain ⟨r15, y16, h14, hX⟩ := bd2_go hX
    refine k_X12_fails hx hb hml hown htg hK hW hS h14 q407 hl.1 (Nat.le_of_ble_eq_true rfl) (Nat.le_of_ble_eq_true rfl) (Nat.le_of_ble_eq_true rfl) ⟨Nat.zero_le _, Nat.zero_le _⟩ dX12_endsAfter_10 (fun H locs hW hS => ?_)
    have hX := Option.some.inj hX
    subst hX
    exact rt_i hx hb hr hlocks hW hS dX12_endsAfter_13
set_option maxHeartbeats 4000000 in
theorem k_X12_endsAfter {p : Program} {l : Launch} {e : Env} {R : Room} {s : State} {m : MethodId} {args : Array Value} {below : List Frame} {meth : Method} {c : Code} {H : Heap} {locs : List Loc} {cells slots : Nat} {Q : State → Prop} {cc : ByteArray} {pc nL idx : Nat} {own : String} {ls : Array Slot} {rest : List Value} {G : Geo} {x y : Mem} {H0 : Heap} {p0 : Int32} {v : Int32} {z : Mem} (hx : p.tables.exec = Jvm.exec) (hb : c.code = cc) (hml : c.maxLocals = nL) (hown : s.vm.findClass own = some m.cls) (htg : ∀ w ∈ wsG, w.before args s = true) (hK : Kt G s) (hW : Wh G x y H) (hS : va_S (gF G) H0 H locs) (h : m_X12_endsAfter p0 y = some (v, z)) (hlk : Cond.methodLink own idx yX12_endsAfter ∈ wsG) (hn : ls.size = nL) (hr : (rest.map fun v => v.category).sum ≤ 8) (hR1 : 10 + 1 ≤ R.frames) (hR2 : 8 + (3 + 11) + 228 ≤ R.locals) (hf : cells ≤ R.cells ∧ slots ≤ R.slots) (hdg : decode cc pc = .ok (.invokevirtual idx, 3)) (kk : ∀ (H1 : Heap) (locs1 : List Loc), Wh G x z H1 → va_S (gF G) H0 H1 locs1 → W p l e R s m args below meth c H1 locs1 cells slots Q (F0 m (pc + 3) ls (.int v :: rest))) : W p l e R s m args below meth c H locs cells slots Q (F0 m pc ls (.int p0 :: .ref (gA G 40 0 0) :: rest)) := by
  refine va_calli (va_runV (As := [.int p0]) (rest := rest) ⟨hx, hb, hml, hown, htg⟩ (c_X12_endsAfter l G x y p0 (v, z) h) (cwV 1 htg (gd_V hlk q945 q946 q5 q947) rfl rfl rfl (by decide +kernel) ⟨hR1, hR2⟩) ⟨fun a U g mk q => ⟨q.1, q.2.1.calling, q.2.2⟩, rc_40 hK hW, fun U hU hW9 => ⟨rfl, hK.warm hW9, by rw [hU]; exact hW⟩⟩ rfl rfl hn rfl (lv_room hr) hdg hf) hS (fun _ _ h9 => h9) (fun _ h9 => h9) ?_
  intro r9 u t H1 locs1 ht hvm hw hB hz1 hk1 hS1
  replace hB : Wh G x z t.heap := hB
  rw [ht] at hB
  replace hw : r9 = v := hw
  subst hw
  exact kk H1 locs1 hB hS1
/-! METHOD X12_entry -/
def m_X12_entry (p0 : Int32) (p1 : Int32) (y : Mem) : Option (Int32 × Mem) :=
  bd_ (m_X12_isBetween p0 (0 : Int32) ((y 40 0 0 40) - (1 : Int32))) fun r2 => if r2 = 0 then (bd2_ (m_X12_fails (1 : Int32) y) fun r13 y14 => some (r13, y14)) else (bd_ (m_X12_isBetween p1 (0 : Int32) (3 : Int32)) fun r5 => if r5 = 0 then (bd2_ (m_X12_fails (2 : Int32) y) fun r10 y11 => some (r10, y11)) else (lt_ (up4 y 40 0 0 0 (0 : Int32)) fun y7 => gd_ (((4 : Int32) * p0) + p1) 96 (some ((y7 132 0 0 (((4 : Int32) * p0) + p1).toNatClampNeg), y7))))
abbrev WS_X12_entry : List Cond := .code yX12_entry cX12_entry 3 (some .int) :: wsG
abbrev RM_X12_entry : Room := { frames := 1, cells := 0, slots := 0, locals := 22 }
set_option maxHeartbeats 4000000 in
set_option maxRecDepth 100000 in
theorem c_X12_entry (l : Launch) (G : Geo) (x y : Mem) (p0 : Int32) (p1 : Int32) (r : (Int32 × Mem)) (h : m_X12_entry p0 p1 y = some r) : Met l yX12_entry WS_X12_entry RM_X12_entry (Pw G x y [.ref (gA G 40 0 0), .int p0, .int p1]) (Qi G x r.2 r.1) 0 0 (gF G) := by
  refine Met.ofW (cc := cX12_entry) (maxL := 3) (ret := (some .int)) (by decide) rfl ?_
  intro p e s m args below meth c s₁ B hml hv
  obtain ⟨rfl, hK, hW⟩ := hv
  have hx := B.exec
  have hb := B.bytes
  have hr := B.returns
  have hts := atoms_spec (ws := WS_X12_entry) B.pre
  have htg : ∀ w ∈ wsG, w.before _ s = true := fun w h => hts w (List.mem_cons_of_mem _ h)
  have hown : s.vm.findClass RX12 = some m.cls := findClass_of_methodNamed B.named
  have hlocks := B.notSynchronized
  have hS : va_S (gF G) s.heap s.heap [] := va_S.rf
  have hl := lv_entry ([.ref (gA G 40 0 0), .int p0, .int p1]) (n := 3) (Nat.le_of_ble_eq_true rfl)
  rw [lg_entry_eq]
  generalize (lg_sl ([.ref (gA G 40 0 0), .int p0, .int p1]) ++ List.replicate (3 - (lg_sl ([.ref (gA G 40 0 0), .int p0, .int p1])).length) Slot.unset).toArray = ls at hl ⊢
  have hl : lv_has ls 3 [(0, .ref (gA G 40 0 0)), (1, .int p0), (2, .int p1)] := hl
  have hX := h
  unfold m_X12_entry at hX
  refine lv_iload_n hx hb dX12_entry_0 rfl (lv_at hl 1 rfl) ?_
  refine lv_iconst (v := (0 : Int32)) hx hb dX12_entry_1 (by decide) ?_
  refine lv_aload_n hx hb dX12_entry_2 rfl (lv_at hl 0 rfl) ?_
  refine gf_40_40 hx hb htg hown hK hW q359 dX12_entry_3 ?_
  refine lv_iconst (v := (1 : Int32)) hx hb dX12_entry_6 (by decide) ?_
  refine lv_isub hx hb dX12_entry_7 ?_
  obtain ⟨r2, h1, hX⟩ := bd_go hX
  refine k_X12_isBetween hx hb hml hown htg hK hW hS h1 q319 hl.1 (Nat.le_of_ble_eq_true rfl) (Nat.le_of_ble_eq_true rfl) (Nat.le_of_ble_eq_true rfl) ⟨Nat.zero_le _, Nat.zero_le _⟩ dX12_entry_8 (fun H locs hW hS => ?_)
  refine lv_if_ne (tgt := 20) hx hb dX12_entry_11 (by decide) (fun c3 => ?_) (fun c3 => ?_)
  · have hX := it_f hX c3
    refine lv_iload_n hx hb dX12_entry_20 rfl (lv_at hl 2 rfl) ?_
    refine lv_iconst (v := (0 : Int32)) hx hb dX12_entry_21 (by decide) ?_
    refine lv_iconst (v := (3 : Int32)) hx hb dX12_entry_22 (by decide) ?_
    obtain ⟨r5, h4, hX⟩ := bd_go hX
    refine k_X12_isBetween hx hb hml hown htg hK hW hS h4 q319 hl.1 (Nat.le_of_ble_eq_true rfl) (Nat.le_of_ble_eq_true rfl) (Nat.le_of_ble_eq_true rfl) ⟨Nat.zero_le _, Nat.zero_le _⟩ dX12_entry_23 (fun H locs hW hS => ?_)
    refine lv_if_ne (tgt := 35) hx hb dX12_entry_26 (by decide) (fun c6 => ?_) (fun c6 => ?_)
    · have hX := it_f hX c6
      refine lv_aload_n hx hb dX12_entry_35 rfl (lv_at hl 0 rfl) ?_
      refine lv_iconst (v := (0 : Int32)) hx hb dX12_entry_36 (by decide) ?_
      refine pf_40_0 hx hb htg hown hK hW hS q311 dX12_entry_37 (fun H locs hW hS => ?_)
      obtain ⟨y7, e9⟩ : ∃ w : Mem, w = (up4 y 40 0 0 0 (0 : Int32)) := ⟨_, rfl⟩
      rw [← e9] at hW
      have hX := lt_go hX e9
      refine lv_aload_n hx hb dX12_entry_40 rfl (lv_at hl 0 rfl) ?_
      refine gf_40_32 hx hb htg hown hK hW q167 dX12_entry_41 ?_
      refine lv_iconst (v := (4 : Int32)) hx hb dX12_entry_44 (by decide) ?_
      refine lv_iload_n hx hb dX12_entry_45 rfl (lv_at hl 1 rfl) ?_
      refine lv_imul hx hb dX12_entry_46 ?_
      refine lv_iload_n hx hb dX12_entry_47 rfl (lv_at hl 2 rfl) ?_
      refine lv_iadd hx hb dX12_entry_48 ?_
      obtain ⟨g8, hX⟩ := gd_go hX
      refine al_132 hx hb hK hW g8 dX12_entry_49 ?_
      have hX := Option.some.inj hX
      subst hX
      exact rt_i hx hb hr hlocks hW hS dX12_entry_50
    · have hX := it_t hX c6
      refine lv_aload_n hx hb dX12_entry_29 rfl (lv_at hl 0 rfl) ?_
      refine lv_iconst (v := (2 : Int32)) hx hb dX12_entry_30 (by decide) ?_
      obtain ⟨r10, y11, h9, hX⟩ := bd2_go hX
      refine k_X12_fails hx hb hml hown htg hK hW hS h9 q407 hl.1 (Nat.le_of_ble_eq_true rfl) (Nat.le_of_ble_eq_true rfl) (Nat.le_of_ble_eq_true rfl) ⟨Nat.zero_le _, Nat.zero_le _⟩ dX12_entry_31 (fun H locs hW hS => ?_)
      have hX := Option.some.inj hX
      subst hX
      exact rt_i hx hb hr hlocks hW hS dX12_entry_34
  · have hX := it_t hX c3
    refine lv_aload_n hx hb dX12_entry_14 rfl (lv_at hl 0 rfl) ?_
    refine lv_iconst (v := (1 : Int32)) hx hb dX12_entry_15 (by decide) ?_
    obtain ⟨r13, y14, h12, hX⟩ := bd2_go hX
    refine k_X12_fails hx hb hml hown htg hK hW hS h12 q407 hl.1 (Nat.le_of_ble_eq_true rfl) (Nat.le_of_ble_eq_true rfl) (Nat.le_of_ble_eq_true rfl) ⟨Nat.zero_le _, Nat.zero_le _⟩ dX12_entry_16 (fun H locs hW hS => ?_)
    have hX := Option.some.inj hX
    subst hX
    exact rt_i hx hb hr hlocks hW hS dX12_entry_19
set_option maxHeartbeats 4000000 in
theorem k_X12_entry {p : Program} {l : Launch} {e : Env} {R : Room} {s : State} {m : MethodId} {args : Array Value} {below : List Frame} {meth : Method} {c : Code} {H : Heap} {locs : List Loc} {cells slots : Nat} {Q : State → Prop} {cc : ByteArray} {pc nL idx : Nat} {own : String} {ls : Array Slot} {rest : List Value} {G : Geo} {x y : Mem} {H0 : Heap} {p0 : Int32} {p1 : Int32} {v : Int32} {z : Mem} (hx : p.tables.exec = Jvm.exec) (hb : c.code = cc) (hml : c.maxLocals = nL) (hown : s.vm.findClass own = some m.cls) (htg : ∀ w ∈ wsG, w.before args s = true) (hK : Kt G s) (hW : Wh G x y H) (hS : va_S (gF G) H0 H locs) (h : m_X12_entry p0 p1 y = some (v, z)) (hlk : Cond.methodLink own idx yX12_entry ∈ wsG) (hn : ls.size = nL) (hr : (rest.map fun v => v.category).sum ≤ 8) (hR1 : 1 + 1 ≤ R.frames) (hR2 : 8 + (3 + 11) + 22 ≤ R.locals) (hf : cells ≤ R.cells ∧ slots ≤ R.slots) (hdg : decode cc pc = .ok (.invokevirtual idx, 3)) (kk : ∀ (H1 : Heap) (locs1 : List Loc), Wh G x z H1 → va_S (gF G) H0 H1 locs1 → W p l e R s m args below meth c H1 locs1 cells slots Q (F0 m (pc + 3) ls (.int v :: rest))) : W p l e R s m args below meth c H locs cells slots Q (F0 m pc ls (.int p1 :: .int p0 :: .ref (gA G 40 0 0) :: rest)) := by
  refine va_calli (va_runV (As := [.int p0, .int p1]) (rest := rest) ⟨hx, hb, hml, hown, htg⟩ (c_X12_entry l G x y p0 p1 (v, z) h) (cwV 2 htg (gd_V hlk q1001 q1002 q5 q1003) rfl rfl rfl (by decide +kernel) ⟨hR1, hR2⟩) ⟨fun a U g mk q => ⟨q.1, q.2.1.calling, q.2.2⟩, rc_40 hK hW, fun U hU hW9 => ⟨rfl, hK.warm hW9, by rw [hU]; exact hW⟩⟩ rfl rfl hn rfl (lv_room hr) hdg hf) hS (fun _ _ h9 => h9) (fun _ h9 => h9) ?_
  intro r9 u t H1 locs1 ht hvm hw hB hz1 hk1 hS1
  replace hB : Wh G x z t.heap := hB
  rw [ht] at hB
  replace hw : r9 = v := hw
  subst hw
  exact kk H1 locs1 hB hS1
/-! METHOD X12_feed -/
def m_X12_feed (p0 : Int32) (y : Mem) : Option (Int32 × Mem) :=
  if (y 40 0 0 51) = (80 : Int32) then (bd2_ (m_X12_fails (1 : Int32) y) fun r7 y8 => some (r7, y8)) else (lt_ (up4 y 40 0 0 0 (0 : Int32)) fun y2 => gd_ (y2 40 0 0 51) 80 (lt_ (up4 y2 148 0 0 (y2 40 0 0 51).toNatClampNeg p0) fun y4 => lt_ (up4 y4 40 0 0 51 ((y4 40 0 0 51) + (1 : Int32))) fun y5 => some ((y5 40 0 0 51), y5)))
abbrev WS_X12_feed : List Cond := .code yX12_feed cX12_feed 2 (some .int) :: wsG
abbrev RM_X12_feed : Room := { frames := 1, cells := 0, slots := 0, locals := 21 }
set_option maxHeartbeats 4000000 in
set_option maxRecDepth 100000 in
theorem c_X12_feed (l : Launch) (G : Geo) (x y : Mem) (p0 : Int32) (r : (Int32 × Mem)) (h : m_X12_feed p0 y = some r) : Met l yX12_feed WS_X12_feed RM_X12_feed (Pw G x y [.ref (gA G 40 0 0), .int p0]) (Qi G x r.2 r.1) 0 0 (gF G) := by
  refine Met.ofW (cc := cX12_feed) (maxL := 2) (ret := (some .int)) (by decide) rfl ?_
  intro p e s m args below meth c s₁ B hml hv
  obtain ⟨rfl, hK, hW⟩ := hv
  have hx := B.exec
  have hb := B.bytes
  have hr := B.returns
  have hts := atoms_spec (ws := WS_X12_feed) B.pre
  have htg : ∀ w ∈ wsG, w.before _ s = true := fun w h => hts w (List.mem_cons_of_mem _ h)
  have hown : s.vm.findClass RX12 = some m.cls := findClass_of_methodNamed B.named
  have hlocks := B.notSynchronized
  have hS : va_S (gF G) s.heap s.heap [] := va_S.rf
  have hl := lv_entry ([.ref (gA G 40 0 0), .int p0]) (n := 2) (Nat.le_of_ble_eq_true rfl)
  rw [lg_entry_eq]
  generalize (lg_sl ([.ref (gA G 40 0 0), .int p0]) ++ List.replicate (2 - (lg_sl ([.ref (gA G 40 0 0), .int p0])).length) Slot.unset).toArray = ls at hl ⊢
  have hl : lv_has ls 2 [(0, .ref (gA G 40 0 0)), (1, .int p0)] := hl
  have hX := h
  unfold m_X12_feed at hX
  refine lv_aload_n hx hb dX12_feed_0 rfl (lv_at hl 0 rfl) ?_
  refine gf_40_51 hx hb htg hown hK hW q1085 dX12_feed_1 ?_
  refine lv_bipush (v := (80 : Int32)) hx hb dX12_feed_4 (by decide) ?_
  refine lv_icmp_ne (tgt := 15) hx hb dX12_feed_6 (by decide) (fun c1 => ?_) (fun c1 => ?_)
  · have hX := it_f hX c1
    refine lv_aload_n hx hb dX12_feed_15 rfl (lv_at hl 0 rfl) ?_
    refine lv_iconst (v := (0 : Int32)) hx hb dX12_feed_16 (by decide) ?_
    refine pf_40_0 hx hb htg hown hK hW hS q311 dX12_feed_17 (fun H locs hW hS => ?_)
    obtain ⟨y2, e9⟩ : ∃ w : Mem, w = (up4 y 40 0 0 0 (0 : Int32)) := ⟨_, rfl⟩
    rw [← e9] at hW
    have hX := lt_go hX e9
    refine lv_aload_n hx hb dX12_feed_20 rfl (lv_at hl 0 rfl) ?_
    refine gf_40_48 hx hb htg hown hK hW q172 dX12_feed_21 ?_
    refine lv_aload_n hx hb dX12_feed_24 rfl (lv_at hl 0 rfl) ?_
    refine gf_40_51 hx hb htg hown hK hW q1085 dX12_feed_25 ?_
    refine lv_iload_n hx hb dX12_feed_28 rfl (lv_at hl 1 rfl) ?_
    obtain ⟨g3, hX⟩ := gd_go hX
    refine as_148 hx hb hK hW hS g3 dX12_feed_29 (fun H locs hW hS => ?_)
    obtain ⟨y4, e9⟩ : ∃ w : Mem, w = (up4 y2 148 0 0 (y2 40 0 0 51).toNatClampNeg p0) := ⟨_, rfl⟩
    rw [← e9] at hW
    have hX := lt_go hX e9
    refine lv_aload_n hx hb dX12_feed_30 rfl (lv_at hl 0 rfl) ?_
    refine lv_dup hx hb dX12_feed_31 rfl ?_
    refine gf_40_51 hx hb htg hown hK hW q1085 dX12_feed_32 ?_
    refine lv_iconst (v := (1 : Int32)) hx hb dX12_feed_35 (by decide) ?_
    refine lv_iadd hx hb dX12_feed_36 ?_
    refine pf_40_51 hx hb htg hown hK hW hS q1085 dX12_feed_37 (fun H locs hW hS => ?_)
    obtain ⟨y5, e9⟩ : ∃ w : Mem, w = (up4 y4 40 0 0 51 ((y4 40 0 0 51) + (1 : Int32))) := ⟨_, rfl⟩
    rw [← e9] at hW
    have hX := lt_go hX e9
    refine lv_aload_n hx hb dX12_feed_40 rfl (lv_at hl 0 rfl) ?_
    refine gf_40_51 hx hb htg hown hK hW q1085 dX12_feed_41 ?_
    have hX := Option.some.inj hX
    subst hX
    exact rt_i hx hb hr hlocks hW hS dX12_feed_44
  · have hX := it_t hX c1
    refine lv_aload_n hx hb dX12_feed_9 rfl (lv_at hl 0 rfl) ?_
    refine lv_iconst (v := (1 : Int32)) hx hb dX12_feed_10 (by decide) ?_
    obtain ⟨r7, y8, h6, hX⟩ := bd2_go hX
    refine k_X12_fails hx hb hml hown htg hK hW hS h6 q407 hl.1 (Nat.le_of_ble_eq_true rfl) (Nat.le_of_ble_eq_true rfl) (Nat.le_of_ble_eq_true rfl) ⟨Nat.zero_le _, Nat.zero_le _⟩ dX12_feed_11 (fun H locs hW hS => ?_)
    have hX := Option.some.inj hX
    subst hX
    exact rt_i hx hb hr hlocks hW hS dX12_feed_14
set_option maxHeartbeats 4000000 in
theorem k_X12_feed {p : Program} {l : Launch} {e : Env} {R : Room} {s : State} {m : MethodId} {args : Array Value} {below : List Frame} {meth : Method} {c : Code} {H : Heap} {locs : List Loc} {cells slots : Nat} {Q : State → Prop} {cc : ByteArray} {pc nL idx : Nat} {own : String} {ls : Array Slot} {rest : List Value} {G : Geo} {x y : Mem} {H0 : Heap} {p0 : Int32} {v : Int32} {z : Mem} (hx : p.tables.exec = Jvm.exec) (hb : c.code = cc) (hml : c.maxLocals = nL) (hown : s.vm.findClass own = some m.cls) (htg : ∀ w ∈ wsG, w.before args s = true) (hK : Kt G s) (hW : Wh G x y H) (hS : va_S (gF G) H0 H locs) (h : m_X12_feed p0 y = some (v, z)) (hlk : Cond.methodLink own idx yX12_feed ∈ wsG) (hn : ls.size = nL) (hr : (rest.map fun v => v.category).sum ≤ 8) (hR1 : 1 + 1 ≤ R.frames) (hR2 : 8 + (2 + 11) + 21 ≤ R.locals) (hf : cells ≤ R.cells ∧ slots ≤ R.slots) (hdg : decode cc pc = .ok (.invokevirtual idx, 3)) (kk : ∀ (H1 : Heap) (locs1 : List Loc), Wh G x z H1 → va_S (gF G) H0 H1 locs1 → W p l e R s m args below meth c H1 locs1 cells slots Q (F0 m (pc + 3) ls (.int v :: rest))) : W p l e R s m args below meth c H locs cells slots Q (F0 m pc ls (.int p0 :: .ref (gA G 40 0 0) :: rest)) := by
  refine va_calli (va_runV (As := [.int p0]) (rest := rest) ⟨hx, hb, hml, hown, htg⟩ (c_X12_feed l G x y p0 (v, z) h) (cwV 1 htg (gd_V hlk q1082 q1083 q5 q1084) rfl rfl rfl (by decide +kernel) ⟨hR1, hR2⟩) ⟨fun a U g mk q => ⟨q.1, q.2.1.calling, q.2.2⟩, rc_40 hK hW, fun U hU hW9 => ⟨rfl, hK.warm hW9, by rw [hU]; exact hW⟩⟩ rfl rfl hn rfl (lv_room hr) hdg hf) hS (fun _ _ h9 => h9) (fun _ h9 => h9) ?_
  intro r9 u t H1 locs1 ht hvm hw hB hz1 hk1 hS1
  replace hB : Wh G x z t.heap := hB
  rw [ht] at hB
  replace hw : r9 = v := hw
  subst hw
  exact kk H1 locs1 hB hS1
/-! METHOD X12_remembers -/
def m_X12_remembers_j50 (y : Mem) : Option Mem :=
  bd_ (m_X12_passAll (155, 0, 0) 3438 ((573 : Int32) * (y 40 0 0 59)) (1 : Int32) y) fun y5 => lt_ (up4 y5 40 0 0 59 ((y5 40 0 0 59) + (1 : Int32))) fun y6 => some y6
def m_X12_remembers_b11 (k11 : Int32 → Mem → Option Mem) (x1 : Int32) (y : Mem) : Option Mem :=
  if (2865 : Int32) ≤ x1 then (lt_ (up4 y 40 0 0 59 ((y 40 0 0 59) - (1 : Int32))) fun y8 => m_X12_remembers_j50 y8) else (gd_ (x1 + (573 : Int32)) 3438 (gd_ x1 3438 (lt_ (up4 y 155 0 0 x1.toNatClampNeg (y 155 0 0 (x1 + (573 : Int32)).toNatClampNeg)) fun y11 => lt_ (x1 + (1 : Int32)) fun x1_12 => k11 x1_12 y11)))
def m_X12_remembers_l11 : Nat → Int32 → Mem → Option Mem
  | 0, _, _ => none
  | n + 1, x1, y => m_X12_remembers_b11 (m_X12_remembers_l11 n) x1 y
def m_X12_remembers (y : Mem) : Option Mem :=
  if (y 40 0 0 59) = (6 : Int32) then (lt_ (0 : Int32) fun x1_2 => m_X12_remembers_l11 FU x1_2 y) else (m_X12_remembers_j50 y)
abbrev WS_X12_remembers : List Cond := .code yX12_remembers cX12_remembers 2 none :: wsG
abbrev RM_X12_remembers : Room := { frames := 3, cells := 0, slots := 0, locals := 67 }
set_option maxHeartbeats 4000000 in
set_option maxRecDepth 100000 in
theorem c_X12_remembers (l : Launch) (G : Geo) (x y : Mem) (r : Mem) (h : m_X12_remembers y = some r) : Met l yX12_remembers WS_X12_remembers RM_X12_remembers (Pw G x y [.ref (gA G 40 0 0)]) (Qv G x r) 0 0 (gF G) := by
  refine Met.ofW (cc := cX12_remembers) (maxL := 2) (ret := none) (by decide) rfl ?_
  intro p e s m args below meth c s₁ B hml hv
  obtain ⟨rfl, hK, hW⟩ := hv
  have hx := B.exec
  have hb := B.bytes
  have hr := B.returns
  have hts := atoms_spec (ws := WS_X12_remembers) B.pre
  have htg : ∀ w ∈ wsG, w.before _ s = true := fun w h => hts w (List.mem_cons_of_mem _ h)
  have hown : s.vm.findClass RX12 = some m.cls := findClass_of_methodNamed B.named
  have hlocks := B.notSynchronized
  have hS : va_S (gF G) s.heap s.heap [] := va_S.rf
  have hl := lv_entry ([.ref (gA G 40 0 0)]) (n := 2) (Nat.le_of_ble_eq_true rfl)
  rw [lg_entry_eq]
  generalize (lg_sl ([.ref (gA G 40 0 0)]) ++ List.replicate (2 - (lg_sl ([.ref (gA G 40 0 0)])).length) Slot.unset).toArray = ls at hl ⊢
  have hl : lv_has ls 2 [(0, .ref (gA G 40 0 0))] := hl
  have hX := h
  unfold m_X12_remembers at hX
  have J_50 : ∀ (y : Mem) (H : Heap) (locs : List Loc) (ls : Array Slot), Wh G x y H → va_S (gF G) s.heap H locs → lv_has ls 2 [(0, .ref (gA G 40 0 0))] → m_X12_remembers_j50 y = some r → W p l e (headSpec WS_X12_remembers RM_X12_remembers).room s m ([.ref (gA G 40 0 0)] : List Value).toArray below meth c H locs 0 0 (MQ below (Qv G x r) ([.ref (gA G 40 0 0)] : List Value).toArray s 0 0 (gF G)) (F0 m 50 ls []) := by
    intro y H locs ls hW hS hl hX
    unfold m_X12_remembers_j50 at hX
    refine lv_aload_n hx hb dX12_remembers_50 rfl (lv_at hl 0 rfl) ?_
    refine lv_aload_n hx hb dX12_remembers_51 rfl (lv_at hl 0 rfl) ?_
    refine gf_40_55 hx hb htg hown hK hW q175 dX12_remembers_52 ?_
    refine lv_sipush (v := (573 : Int32)) hx hb dX12_remembers_55 (by decide) ?_
    refine lv_aload_n hx hb dX12_remembers_58 rfl (lv_at hl 0 rfl) ?_
    refine gf_40_59 hx hb htg hown hK hW q345 dX12_remembers_59 ?_
    refine lv_imul hx hb dX12_remembers_62 ?_
    refine lv_iconst (v := (1 : Int32)) hx hb dX12_remembers_63 (by decide) ?_
    obtain ⟨y5, h3, hX⟩ := bd_go hX
    refine k_X12_passAll hx hb hml hown htg hK hW hS (ia_155) (show ¬ (155 : Nat) < 40 by decide) h3 q346 hl.1 (Nat.le_of_ble_eq_true rfl) (Nat.le_of_ble_eq_true rfl) (Nat.le_of_ble_eq_true rfl) ⟨Nat.zero_le _, Nat.zero_le _⟩ dX12_remembers_64 (fun H locs hW hS => ?_)
    refine lv_aload_n hx hb dX12_remembers_67 rfl (lv_at hl 0 rfl) ?_
    refine lv_dup hx hb dX12_remembers_68 rfl ?_
    refine gf_40_59 hx hb htg hown hK hW q345 dX12_remembers_69 ?_
    refine lv_iconst (v := (1 : Int32)) hx hb dX12_remembers_72 (by decide) ?_
    refine lv_iadd hx hb dX12_remembers_73 ?_
    refine pf_40_59 hx hb htg hown hK hW hS q345 dX12_remembers_74 (fun H locs hW hS => ?_)
    obtain ⟨y6, e9⟩ : ∃ w : Mem, w = (up4 y5 40 0 0 59 ((y5 40 0 0 59) + (1 : Int32))) := ⟨_, rfl⟩
    rw [← e9] at hW
    have hX := lt_go hX e9
    have hX := Option.some.inj hX
    subst hX
    exact rt_v hx hb hr hlocks hW hS dX12_remembers_77
  have B_11 : ∀ (k11 : Int32 → Mem → Option Mem) (hk11 : ∀ (x1 : Int32) (y : Mem) (H : Heap) (locs : List Loc) (ls : Array Slot), Wh G x y H → va_S (gF G) s.heap H locs → lv_has ls 2 [(0, .ref (gA G 40 0 0)), (1, .int x1)] → k11 x1 y = some r → W p l e (headSpec WS_X12_remembers RM_X12_remembers).room s m ([.ref (gA G 40 0 0)] : List Value).toArray below meth c H locs 0 0 (MQ below (Qv G x r) ([.ref (gA G 40 0 0)] : List Value).toArray s 0 0 (gF G)) (F0 m 11 ls [])), ∀ (x1 : Int32) (y : Mem) (H : Heap) (locs : List Loc) (ls : Array Slot), Wh G x y H → va_S (gF G) s.heap H locs → lv_has ls 2 [(0, .ref (gA G 40 0 0)), (1, .int x1)] → m_X12_remembers_b11 k11 x1 y = some r → W p l e (headSpec WS_X12_remembers RM_X12_remembers).room s m ([.ref (gA G 40 0 0)] : List Value).toArray below meth c H locs 0 0 (MQ below (Qv G x r) ([.ref (gA G 40 0 0)] : List Value).toArray s 0 0 (gF G)) (F0 m 11 ls []) := by
    intro k11 hk11 x1 y H locs ls hW hS hl hX
    unfold m_X12_remembers_b11 at hX
    refine lv_iload_n hx hb dX12_remembers_11 rfl (lv_at hl 1 rfl) ?_
    refine lv_sipush (v := (2865 : Int32)) hx hb dX12_remembers_12 (by decide) ?_
    refine lv_icmp_ge (tgt := 40) hx hb dX12_remembers_15 (by decide) (fun c7 => ?_) (fun c7 => ?_)
    · have hX := it_t hX c7
      refine lv_aload_n hx hb dX12_remembers_40 rfl (lv_at hl 0 rfl) ?_
      refine lv_dup hx hb dX12_remembers_41 rfl ?_
      refine gf_40_59 hx hb htg hown hK hW q345 dX12_remembers_42 ?_
      refine lv_iconst (v := (1 : Int32)) hx hb dX12_remembers_45 (by decide) ?_
      refine lv_isub hx hb dX12_remembers_46 ?_
      refine pf_40_59 hx hb htg hown hK hW hS q345 dX12_remembers_47 (fun H locs hW hS => ?_)
      obtain ⟨y8, e9⟩ : ∃ w : Mem, w = (up4 y 40 0 0 59 ((y 40 0 0 59) - (1 : Int32))) := ⟨_, rfl⟩
      rw [← e9] at hW
      have hX := lt_go hX e9
      exact J_50 _ _ _ _ hW hS (lv_sub hl [0] rfl) hX
    · have hX := it_f hX c7
      refine lv_aload_n hx hb dX12_remembers_18 rfl (lv_at hl 0 rfl) ?_
      refine gf_40_55 hx hb htg hown hK hW q175 dX12_remembers_19 ?_
      refine lv_iload_n hx hb dX12_remembers_22 rfl (lv_at hl 1 rfl) ?_
      refine lv_aload_n hx hb dX12_remembers_23 rfl (lv_at hl 0 rfl) ?_
      refine gf_40_55 hx hb htg hown hK hW q175 dX12_remembers_24 ?_
      refine lv_iload_n hx hb dX12_remembers_27 rfl (lv_at hl 1 rfl) ?_
      refine lv_sipush (v := (573 : Int32)) hx hb dX12_remembers_28 (by decide) ?_
      refine lv_iadd hx hb dX12_remembers_31 ?_
      obtain ⟨g9, hX⟩ := gd_go hX
      refine al_155 hx hb hK hW g9 dX12_remembers_32 ?_
      obtain ⟨g10, hX⟩ := gd_go hX
      refine as_155 hx hb hK hW hS g10 dX12_remembers_33 (fun H locs hW hS => ?_)
      obtain ⟨y11, e9⟩ : ∃ w : Mem, w = (up4 y 155 0 0 x1.toNatClampNeg (y 155 0 0 (x1 + (573 : Int32)).toNatClampNeg)) := ⟨_, rfl⟩
      rw [← e9] at hW
      have hX := lt_go hX e9
      obtain ⟨x1_12, e9⟩ : ∃ w : Int32, w = (x1 + (1 : Int32)) := ⟨_, rfl⟩
      have hX := lt_go hX e9
      refine lv_iinc (v := x1_12) (lv' := [(1, .int x1_12), (0, .ref (gA G 40 0 0))]) hx hb dX12_remembers_34 hl (k := 1) rfl (by rw [e9]; rfl) (by decide) rfl (fun ls hl => ?_)
      refine lv_goto (tgt := 11) hx hb dX12_remembers_37 (by decide) ?_
      exact hk11 _ _ _ _ _ hW hS (lv_sub hl [1, 0] rfl) hX
  have L_11 : ∀ (n : Nat), ∀ (x1 : Int32) (y : Mem) (H : Heap) (locs : List Loc) (ls : Array Slot), Wh G x y H → va_S (gF G) s.heap H locs → lv_has ls 2 [(0, .ref (gA G 40 0 0)), (1, .int x1)] → m_X12_remembers_l11 n x1 y = some r → W p l e (headSpec WS_X12_remembers RM_X12_remembers).room s m ([.ref (gA G 40 0 0)] : List Value).toArray below meth c H locs 0 0 (MQ below (Qv G x r) ([.ref (gA G 40 0 0)] : List Value).toArray s 0 0 (gF G)) (F0 m 11 ls []) := by
    intro n
    induction n with
    | zero => intro x1 y H locs ls hW hS hl hX; exact no_go hX
    | succ n ih => intro x1 y H locs ls hW hS hl hX; exact B_11 _ ih _ _ _ _ _ hW hS hl hX
  refine lv_aload_n hx hb dX12_remembers_0 rfl (lv_at hl 0 rfl) ?_
  refine gf_40_59 hx hb htg hown hK hW q345 dX12_remembers_1 ?_
  refine lv_bipush (v := (6 : Int32)) hx hb dX12_remembers_4 (by decide) ?_
  refine lv_icmp_ne (tgt := 50) hx hb dX12_remembers_6 (by decide) (fun c1 => ?_) (fun c1 => ?_)
  · have hX := it_f hX c1
    exact J_50 _ _ _ _ hW hS (lv_sub hl [0] rfl) hX
  · have hX := it_t hX c1
    refine lv_iconst (v := (0 : Int32)) hx hb dX12_remembers_9 (by decide) ?_
    refine lv_topi (fun x1_2 e9 => ?_)
    have hX := lt_go hX e9
    refine lv_istore_n (lv' := [(1, .int x1_2), (0, .ref (gA G 40 0 0))]) hx hb dX12_remembers_10 rfl hl (by decide) rfl (fun ls hl => ?_)
    exact L_11 FU _ _ _ _ _ hW hS (lv_sub hl [1, 0] rfl) hX
set_option maxHeartbeats 4000000 in
theorem k_X12_remembers {p : Program} {l : Launch} {e : Env} {R : Room} {s : State} {m : MethodId} {args : Array Value} {below : List Frame} {meth : Method} {c : Code} {H : Heap} {locs : List Loc} {cells slots : Nat} {Q : State → Prop} {cc : ByteArray} {pc nL idx : Nat} {own : String} {ls : Array Slot} {rest : List Value} {G : Geo} {x y : Mem} {H0 : Heap} {z : Mem} (hx : p.tables.exec = Jvm.exec) (hb : c.code = cc) (hml : c.maxLocals = nL) (hown : s.vm.findClass own = some m.cls) (htg : ∀ w ∈ wsG, w.before args s = true) (hK : Kt G s) (hW : Wh G x y H) (hS : va_S (gF G) H0 H locs) (h : m_X12_remembers y = some z) (hlk : Cond.methodLink own idx yX12_remembers ∈ wsG) (hn : ls.size = nL) (hr : (rest.map fun v => v.category).sum ≤ 8) (hR1 : 3 + 1 ≤ R.frames) (hR2 : 8 + (2 + 11) + 67 ≤ R.locals) (hf : cells ≤ R.cells ∧ slots ≤ R.slots) (hdg : decode cc pc = .ok (.invokevirtual idx, 3)) (kk : ∀ (H1 : Heap) (locs1 : List Loc), Wh G x z H1 → va_S (gF G) H0 H1 locs1 → W p l e R s m args below meth c H1 locs1 cells slots Q (F0 m (pc + 3) ls (rest))) : W p l e R s m args below meth c H locs cells slots Q (F0 m pc ls (.ref (gA G 40 0 0) :: rest)) := by
  refine va_callv (va_runV (As := []) (rest := rest) ⟨hx, hb, hml, hown, htg⟩ (c_X12_remembers l G x y z h) (cwV 0 htg (gd_V hlk q342 q343 q5 q344) rfl rfl rfl (by decide +kernel) ⟨hR1, hR2⟩) ⟨fun a U g mk q => ⟨q.1, q.2.1.calling, q.2.2⟩, rc_40 hK hW, fun U hU hW9 => ⟨rfl, hK.warm hW9, by rw [hU]; exact hW⟩⟩ rfl rfl hn rfl (lv_room hr) hdg hf) hS (fun _ _ h9 => h9) (fun _ h9 => h9) ?_
  intro u t H1 locs1 ht hvm hw hB hz1 hk1 hS1
  replace hB : Wh G x z t.heap := hB
  rw [ht] at hB
  exact kk H1 locs1 hB hS1
/-! METHOD X12_give -/
def m_X12_give (p0 : Int32) (p1 : Int32) (p2 : Int32) (p3 : Int32) (p4 : Int32) (p5 : Int32) (y : Mem) : Option (Int32 × Mem) :=
  bd_ (m_X12_notGiven p0 p1 p2 p3 p4 p5 y) fun r2 => lt_ (up4 y 40 0 0 0 r2) fun y3 => if (y3 40 0 0 0) ≤ 0 then (bd_ (m_X12_remembers y3) fun y7 => bd_ (m_X12_gives p0 p1 p2 p3 p4 p5 y7) fun y10 => some (((y10 40 0 0 34) - (1 : Int32)), y10)) else (some ((0 : Int32), y3))
abbrev WS_X12_give : List Cond := .code yX12_give cX12_give 7 (some .int) :: wsG
abbrev RM_X12_give : Room := { frames := 4, cells := 0, slots := 0, locals := 88 }
set_option maxHeartbeats 4000000 in
set_option maxRecDepth 100000 in
theorem c_X12_give (l : Launch) (G : Geo) (x y : Mem) (p0 : Int32) (p1 : Int32) (p2 : Int32) (p3 : Int32) (p4 : Int32) (p5 : Int32) (r : (Int32 × Mem)) (h : m_X12_give p0 p1 p2 p3 p4 p5 y = some r) : Met l yX12_give WS_X12_give RM_X12_give (Pw G x y [.ref (gA G 40 0 0), .int p0, .int p1, .int p2, .int p3, .int p4, .int p5]) (Qi G x r.2 r.1) 0 0 (gF G) := by
  refine Met.ofW (cc := cX12_give) (maxL := 7) (ret := (some .int)) (by decide) rfl ?_
  intro p e s m args below meth c s₁ B hml hv
  obtain ⟨rfl, hK, hW⟩ := hv
  have hx := B.exec
  have hb := B.bytes
  have hr := B.returns
  have hts := atoms_spec (ws := WS_X12_give) B.pre
  have htg : ∀ w ∈ wsG, w.before _ s = true := fun w h => hts w (List.mem_cons_of_mem _ h)
  have hown : s.vm.findClass RX12 = some m.cls := findClass_of_methodNamed B.named
  have hlocks := B.notSynchronized
  have hS : va_S (gF G) s.heap s.heap [] := va_S.rf
  have hl := lv_entry ([.ref (gA G 40 0 0), .int p0, .int p1, .int p2, .int p3, .int p4, .int p5]) (n := 7) (Nat.le_of_ble_eq_true rfl)
  rw [lg_entry_eq]
  generalize (lg_sl ([.ref (gA G 40 0 0), .int p0, .int p1, .int p2, .int p3, .int p4, .int p5]) ++ List.replicate (7 - (lg_sl ([.ref (gA G 40 0 0), .int p0, .int p1, .int p2, .int p3, .int p4, .int p5])).length) Slot.unset).toArray = ls at hl ⊢
  have hl : lv_has ls 7 [(0, .ref (gA G 40 0 0)), (1, .int p0), (2, .int p1), (3, .int p2), (4, .int p3), (5, .int p4), (6, .int p5)] := hl
  have hX := h
  unfold m_X12_give at hX
  refine lv_aload_n hx hb dX12_give_0 rfl (lv_at hl 0 rfl) ?_
  refine lv_aload_n hx hb dX12_give_1 rfl (lv_at hl 0 rfl) ?_
  refine lv_iload_n hx hb dX12_give_2 rfl (lv_at hl 1 rfl) ?_
  refine lv_iload_n hx hb dX12_give_3 rfl (lv_at hl 2 rfl) ?_
  refine lv_iload_n hx hb dX12_give_4 rfl (lv_at hl 3 rfl) ?_
  refine lv_iload hx hb dX12_give_5 (lv_at hl 4 rfl) ?_
  refine lv_iload hx hb dX12_give_7 (lv_at hl 5 rfl) ?_
  refine lv_iload hx hb dX12_give_9 (lv_at hl 6 rfl) ?_
  obtain ⟨r2, h1, hX⟩ := bd_go hX
  refine k_X12_notGiven hx hb hml hown htg hK hW hS h1 q569 hl.1 (Nat.le_of_ble_eq_true rfl) (Nat.le_of_ble_eq_true rfl) (Nat.le_of_ble_eq_true rfl) ⟨Nat.zero_le _, Nat.zero_le _⟩ dX12_give_11 (fun H locs hW hS => ?_)
  refine pf_40_0 hx hb htg hown hK hW hS q311 dX12_give_14 (fun H locs hW hS => ?_)
  obtain ⟨y3, e9⟩ : ∃ w : Mem, w = (up4 y 40 0 0 0 r2) := ⟨_, rfl⟩
  rw [← e9] at hW
  have hX := lt_go hX e9
  refine lv_aload_n hx hb dX12_give_17 rfl (lv_at hl 0 rfl) ?_
  refine gf_40_0 hx hb htg hown hK hW q311 dX12_give_18 ?_
  refine lv_if_le (tgt := 26) hx hb dX12_give_21 (by decide) (fun c4 => ?_) (fun c4 => ?_)
  · have hX := it_t hX c4
    refine lv_aload_n hx hb dX12_give_26 rfl (lv_at hl 0 rfl) ?_
    obtain ⟨y7, h5, hX⟩ := bd_go hX
    refine k_X12_remembers hx hb hml hown htg hK hW hS h5 q341 hl.1 (Nat.le_of_ble_eq_true rfl) (Nat.le_of_ble_eq_true rfl) (Nat.le_of_ble_eq_true rfl) ⟨Nat.zero_le _, Nat.zero_le _⟩ dX12_give_27 (fun H locs hW hS => ?_)
    refine lv_aload_n hx hb dX12_give_30 rfl (lv_at hl 0 rfl) ?_
    refine lv_iload_n hx hb dX12_give_31 rfl (lv_at hl 1 rfl) ?_
    refine lv_iload_n hx hb dX12_give_32 rfl (lv_at hl 2 rfl) ?_
    refine lv_iload_n hx hb dX12_give_33 rfl (lv_at hl 3 rfl) ?_
    refine lv_iload hx hb dX12_give_34 (lv_at hl 4 rfl) ?_
    refine lv_iload hx hb dX12_give_36 (lv_at hl 5 rfl) ?_
    refine lv_iload hx hb dX12_give_38 (lv_at hl 6 rfl) ?_
    obtain ⟨y10, h8, hX⟩ := bd_go hX
    refine k_X12_gives hx hb hml hown htg hK hW hS h8 q579 hl.1 (Nat.le_of_ble_eq_true rfl) (Nat.le_of_ble_eq_true rfl) (Nat.le_of_ble_eq_true rfl) ⟨Nat.zero_le _, Nat.zero_le _⟩ dX12_give_40 (fun H locs hW hS => ?_)
    refine lv_aload_n hx hb dX12_give_43 rfl (lv_at hl 0 rfl) ?_
    refine gf_40_34 hx hb htg hown hK hW q353 dX12_give_44 ?_
    refine lv_iconst (v := (1 : Int32)) hx hb dX12_give_47 (by decide) ?_
    refine lv_isub hx hb dX12_give_48 ?_
    have hX := Option.some.inj hX
    subst hX
    exact rt_i hx hb hr hlocks hW hS dX12_give_49
  · have hX := it_f hX c4
    refine lv_iconst (v := (0 : Int32)) hx hb dX12_give_24 (by decide) ?_
    have hX := Option.some.inj hX
    subst hX
    exact rt_i hx hb hr hlocks hW hS dX12_give_25
set_option maxHeartbeats 4000000 in
theorem k_X12_give {p : Program} {l : Launch} {e : Env} {R : Room} {s : State} {m : MethodId} {args : Array Value} {below : List Frame} {meth : Method} {c : Code} {H : Heap} {locs : List Loc} {cells slots : Nat} {Q : State → Prop} {cc : ByteArray} {pc nL idx : Nat} {own : String} {ls : Array Slot} {rest : List Value} {G : Geo} {x y : Mem} {H0 : Heap} {p0 : Int32} {p1 : Int32} {p2 : Int32} {p3 : Int32} {p4 : Int32} {p5 : Int32} {v : Int32} {z : Mem} (hx : p.tables.exec = Jvm.exec) (hb : c.code = cc) (hml : c.maxLocals = nL) (hown : s.vm.findClass own = some m.cls) (htg : ∀ w ∈ wsG, w.before args s = true) (hK : Kt G s) (hW : Wh G x y H) (hS : va_S (gF G) H0 H locs) (h : m_X12_give p0 p1 p2 p3 p4 p5 y = some (v, z)) (hlk : Cond.methodLink own idx yX12_give ∈ wsG) (hn : ls.size = nL) (hr : (rest.map fun v => v.category).sum ≤ 8) (hR1 : 4 + 1 ≤ R.frames) (hR2 : 8 + (7 + 11) + 88 ≤ R.locals) (hf : cells ≤ R.cells ∧ slots ≤ R.slots) (hdg : decode cc pc = .ok (.invokevirtual idx, 3)) (kk : ∀ (H1 : Heap) (locs1 : List Loc), Wh G x z H1 → va_S (gF G) H0 H1 locs1 → W p l e R s m args below meth c H1 locs1 cells slots Q (F0 m (pc + 3) ls (.int v :: rest))) : W p l e R s m args below meth c H locs cells slots Q (F0 m pc ls (.int p5 :: .int p4 :: .int p3 :: .int p2 :: .int p1 :: .int p0 :: .ref (gA G 40 0 0) :: rest)) := by
  refine va_calli (va_runV (As := [.int p0, .int p1, .int p2, .int p3, .int p4, .int p5]) (rest := rest) ⟨hx, hb, hml, hown, htg⟩ (c_X12_give l G x y p0 p1 p2 p3 p4 p5 (v, z) h) (cwV 6 htg (gd_V hlk q566 q567 q5 q568) rfl rfl rfl (by decide +kernel) ⟨hR1, hR2⟩) ⟨fun a U g mk q => ⟨q.1, q.2.1.calling, q.2.2⟩, rc_40 hK hW, fun U hU hW9 => ⟨rfl, hK.warm hW9, by rw [hU]; exact hW⟩⟩ rfl rfl hn rfl (lv_room hr) hdg hf) hS (fun _ _ h9 => h9) (fun _ h9 => h9) ?_
  intro r9 u t H1 locs1 ht hvm hw hB hz1 hk1 hS1
  replace hB : Wh G x z t.heap := hB
  rw [ht] at hB
  replace hw : r9 = v := hw
  subst hw
  exact kk H1 locs1 hB hS1
