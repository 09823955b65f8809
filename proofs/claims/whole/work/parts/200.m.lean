/-! METHOD X0_addToRow -/
def m_X0_addToRow (p0 : Fin 10 × Fin 4) (p1 : Int32) (x : Mem) : Option Mem :=
  if (x 0 ↑p0.1 ↑p0.2 12) < 0 then (some x) else (if (30 : Int32) ≤ (x 0 ↑p0.1 ↑p0.2 12) then (some x) else (gd_ (x 0 ↑p0.1 ↑p0.2 12) 30 (lt_ (up4 x 1 ↑p0.1 ↑p0.2 (x 0 ↑p0.1 ↑p0.2 12).toNatClampNeg p1) fun x4 => lt_ (up4 x4 0 ↑p0.1 ↑p0.2 12 ((x4 0 ↑p0.1 ↑p0.2 12) + (1 : Int32))) fun x5 => some x5)))
abbrev WS_X0_addToRow : List Cond := .code yX0_addToRow cX0_addToRow 2 none :: wsG
abbrev RM_X0_addToRow : Room := { frames := 0, cells := 0, slots := 0, locals := 0 }
set_option maxHeartbeats 4000000 in
set_option maxRecDepth 100000 in
theorem c_X0_addToRow (l : Launch) (G : Geo) (x y : Mem) (p0 : Fin 10 × Fin 4) (p1 : Int32) (r : Mem) (h : m_X0_addToRow p0 p1 x = some r) : Met l yX0_addToRow WS_X0_addToRow RM_X0_addToRow (Pw G x y [.ref (gA G 0 ↑p0.1 ↑p0.2), .int p1]) (Qv G r y) 0 0 (gF G) := by
  refine Met.ofW (cc := cX0_addToRow) (maxL := 2) (ret := none) (by decide) rfl ?_
  intro p e s m args below meth c s₁ B hml hv
  obtain ⟨rfl, hK, hW⟩ := hv
  have hx := B.exec
  have hb := B.bytes
  have hr := B.returns
  have hts := atoms_spec (ws := WS_X0_addToRow) B.pre
  have htg : ∀ w ∈ wsG, w.before _ s = true := fun w h => hts w (List.mem_cons_of_mem _ h)
  have hown : s.vm.findClass RX0 = some m.cls := findClass_of_methodNamed B.named
  have hlocks := B.notSynchronized
  have hS : va_S (gF G) s.heap s.heap [] := va_S.rf
  have hl := lv_entry ([.ref (gA G 0 ↑p0.1 ↑p0.2), .int p1]) (n := 2) (Nat.le_of_ble_eq_true rfl)
  rw [lg_entry_eq]
  generalize (lg_sl ([.ref (gA G 0 ↑p0.1 ↑p0.2), .int p1]) ++ List.replicate (2 - (lg_sl ([.ref (gA G 0 ↑p0.1 ↑p0.2), .int p1])).length) Slot.unset).toArray = ls at hl ⊢
  have hl : lv_has ls 2 [(0, .ref (gA G 0 ↑p0.1 ↑p0.2)), (1, .int p1)] := hl
  have hX := h
  unfold m_X0_addToRow at hX
  refine lv_aload_n hx hb dX0_addToRow_0 rfl (lv_at hl 0 rfl) ?_
  refine gf_0_12 hx hb htg hown hK hW p0 q270 dX0_addToRow_1 ?_
  refine lv_if_lt (tgt := 39) hx hb dX0_addToRow_4 (by decide) (fun c1 => ?_) (fun c1 => ?_)
  · have hX := it_t hX c1
    have hX := Option.some.inj hX
    subst hX
    exact rt_v hx hb hr hlocks hW hS dX0_addToRow_39
  · have hX := it_f hX c1
    refine lv_aload_n hx hb dX0_addToRow_7 rfl (lv_at hl 0 rfl) ?_
    refine gf_0_12 hx hb htg hown hK hW p0 q270 dX0_addToRow_8 ?_
    refine lv_aload_n hx hb dX0_addToRow_11 rfl (lv_at hl 0 rfl) ?_
    refine gf_0_13 hx hb htg hown hK hW p0 q80 dX0_addToRow_12 ?_
    refine an_1 hx hb hK hW p0 dX0_addToRow_15 ?_
    refine lv_icmp_ge (tgt := 39) hx hb dX0_addToRow_16 (by decide) (fun c2 => ?_) (fun c2 => ?_)
    · have hX := it_t hX c2
      have hX := Option.some.inj hX
      subst hX
      exact rt_v hx hb hr hlocks hW hS dX0_addToRow_39
    · have hX := it_f hX c2
      refine lv_aload_n hx hb dX0_addToRow_19 rfl (lv_at hl 0 rfl) ?_
      refine gf_0_13 hx hb htg hown hK hW p0 q80 dX0_addToRow_20 ?_
      refine lv_aload_n hx hb dX0_addToRow_23 rfl (lv_at hl 0 rfl) ?_
      refine gf_0_12 hx hb htg hown hK hW p0 q270 dX0_addToRow_24 ?_
      refine lv_iload_n hx hb dX0_addToRow_27 rfl (lv_at hl 1 rfl) ?_
      obtain ⟨g3, hX⟩ := gd_go hX
      refine as_1 hx hb hK hW hS p0 g3 dX0_addToRow_28 (fun H locs hW hS => ?_)
      obtain ⟨x4, e9⟩ : ∃ w : Mem, w = (up4 x 1 ↑p0.1 ↑p0.2 (x 0 ↑p0.1 ↑p0.2 12).toNatClampNeg p1) := ⟨_, rfl⟩
      rw [← e9] at hW
      have hX := lt_go hX e9
      refine lv_aload_n hx hb dX0_addToRow_29 rfl (lv_at hl 0 rfl) ?_
      refine lv_dup hx hb dX0_addToRow_30 rfl ?_
      refine gf_0_12 hx hb htg hown hK hW p0 q270 dX0_addToRow_31 ?_
      refine lv_iconst (v := (1 : Int32)) hx hb dX0_addToRow_34 (by decide) ?_
      refine lv_iadd hx hb dX0_addToRow_35 ?_
      refine pf_0_12 hx hb htg hown hK hW hS p0 q270 dX0_addToRow_36 (fun H locs hW hS => ?_)
      obtain ⟨x5, e9⟩ : ∃ w : Mem, w = (up4 x4 0 ↑p0.1 ↑p0.2 12 ((x4 0 ↑p0.1 ↑p0.2 12) + (1 : Int32))) := ⟨_, rfl⟩
      rw [← e9] at hW
      have hX := lt_go hX e9
      have hX := Option.some.inj hX
      subst hX
      exact rt_v hx hb hr hlocks hW hS dX0_addToRow_39
set_option maxHeartbeats 4000000 in
theorem k_X0_addToRow {p : Program} {l : Launch} {e : Env} {R : Room} {s : State} {m : MethodId} {args : Array Value} {below : List Frame} {meth : Method} {c : Code} {H : Heap} {locs : List Loc} {cells slots : Nat} {Q : State → Prop} {cc : ByteArray} {pc nL idx : Nat} {own : String} {ls : Array Slot} {rest : List Value} {G : Geo} {x y : Mem} {H0 : Heap} {p0 : Fin 10 × Fin 4} {p1 : Int32} {z : Mem} (hx : p.tables.exec = Jvm.exec) (hb : c.code = cc) (hml : c.maxLocals = nL) (hown : s.vm.findClass own = some m.cls) (htg : ∀ w ∈ wsG, w.before args s = true) (hK : Kt G s) (hW : Wh G x y H) (hS : va_S (gF G) H0 H locs) (h : m_X0_addToRow p0 p1 x = some z) (hlk : Cond.methodLink own idx yX0_addToRow ∈ wsG) (hn : ls.size = nL) (hr : (rest.map fun v => v.category).sum ≤ 8) (hR1 : 0 + 1 ≤ R.frames) (hR2 : 8 + (2 + 11) + 0 ≤ R.locals) (hf : cells ≤ R.cells ∧ slots ≤ R.slots) (hdg : decode cc pc = .ok (.invokevirtual idx, 3)) (kk : ∀ (H1 : Heap) (locs1 : List Loc), Wh G z y H1 → va_S (gF G) H0 H1 locs1 → W p l e R s m args below meth c H1 locs1 cells slots Q (F0 m (pc + 3) ls (rest))) : W p l e R s m args below meth c H locs cells slots Q (F0 m pc ls (.int p1 :: .ref (gA G 0 ↑p0.1 ↑p0.2) :: rest)) := by
  refine va_callv (va_runV (As := [.int p1]) (rest := rest) ⟨hx, hb, hml, hown, htg⟩ (c_X0_addToRow l G x y p0 p1 z h) (cwV 1 htg (gd_V hlk q562 q563 q47 q564) rfl rfl rfl (by decide +kernel) ⟨hR1, hR2⟩) ⟨fun a U g mk q => ⟨q.1, q.2.1.calling, q.2.2⟩, rc_0 hK hW p0, fun U hU hW9 => ⟨rfl, hK.warm hW9, by rw [hU]; exact hW⟩⟩ rfl rfl hn rfl (lv_room hr) hdg hf) hS (fun _ _ h9 => h9) (fun _ h9 => h9) ?_
  intro u t H1 locs1 ht hvm hw hB hz1 hk1 hS1
  replace hB : Wh G z y t.heap := hB
  rw [ht] at hB
  exact kk H1 locs1 hB hS1
/-! METHOD X11_copyNumbers -/
def m_X11_copyNumbers_b2 (p0 : Nat × Nat × Nat) (p0n : Nat) (p1 : Nat × Nat × Nat) (p1n : Nat) (k2 : Int32 → Mem → Option Mem) (x2 : Int32) (x : Mem) : Option Mem :=
  if (Int32.ofNat p0n) ≤ x2 then (some x) else (if (Int32.ofNat p1n) ≤ x2 then (some x) else (gd_ x2 p0n (gd_ x2 p1n (lt_ (up4 x p1.1 p1.2.1 p1.2.2 x2.toNatClampNeg (x p0.1 p0.2.1 p0.2.2 x2.toNatClampNeg)) fun x6 => lt_ (x2 + (1 : Int32)) fun x2_7 => k2 x2_7 x6))))
def m_X11_copyNumbers_l2 (p0 : Nat × Nat × Nat) (p0n : Nat) (p1 : Nat × Nat × Nat) (p1n : Nat) : Nat → Int32 → Mem → Option Mem
  | 0, _, _ => none
  | n + 1, x2, x => m_X11_copyNumbers_b2 p0 p0n p1 p1n (m_X11_copyNumbers_l2 p0 p0n p1 p1n n) x2 x
def m_X11_copyNumbers (p0 : Nat × Nat × Nat) (p0n : Nat) (p1 : Nat × Nat × Nat) (p1n : Nat) (x : Mem) : Option Mem :=
  lt_ (0 : Int32) fun x2_1 => m_X11_copyNumbers_l2 p0 p0n p1 p1n FU x2_1 x
abbrev WS_X11_copyNumbers : List Cond := .code yX11_copyNumbers cX11_copyNumbers 3 none :: wsG
abbrev RM_X11_copyNumbers : Room := { frames := 0, cells := 0, slots := 0, locals := 0 }
set_option maxHeartbeats 4000000 in
set_option maxRecDepth 100000 in
theorem c_X11_copyNumbers (l : Launch) (G : Geo) (x y : Mem) (p0 : Nat × Nat × Nat) (p0n : Nat) (p1 : Nat × Nat × Nat) (p1n : Nat) (hA_p0 : Ia p0 p0n) (hB_p0 : p0.1 < 40) (hA_p1 : Ia p1 p1n) (hB_p1 : p1.1 < 40) (r : Mem) (h : m_X11_copyNumbers p0 p0n p1 p1n x = some r) : Met l yX11_copyNumbers WS_X11_copyNumbers RM_X11_copyNumbers (Pw G x y [.ref (gA G p0.1 p0.2.1 p0.2.2), .ref (gA G p1.1 p1.2.1 p1.2.2)]) (Qv G r y) 0 0 (gF G) := by
  refine Met.ofW (cc := cX11_copyNumbers) (maxL := 3) (ret := none) (by decide) rfl ?_
  intro p e s m args below meth c s₁ B hml hv
  obtain ⟨rfl, hK, hW⟩ := hv
  have hx := B.exec
  have hb := B.bytes
  have hr := B.returns
  have hts := atoms_spec (ws := WS_X11_copyNumbers) B.pre
  have htg : ∀ w ∈ wsG, w.before _ s = true := fun w h => hts w (List.mem_cons_of_mem _ h)
  have hown : s.vm.findClass RX11 = some m.cls := findClass_of_methodNamed B.named
  have hlocks := B.notSynchronized
  have hS : va_S (gF G) s.heap s.heap [] := va_S.rf
  have hl := lv_entry ([.ref (gA G p0.1 p0.2.1 p0.2.2), .ref (gA G p1.1 p1.2.1 p1.2.2)]) (n := 3) (Nat.le_of_ble_eq_true rfl)
  rw [lg_entry_eq]
  generalize (lg_sl ([.ref (gA G p0.1 p0.2.1 p0.2.2), .ref (gA G p1.1 p1.2.1 p1.2.2)]) ++ List.replicate (3 - (lg_sl ([.ref (gA G p0.1 p0.2.1 p0.2.2), .ref (gA G p1.1 p1.2.1 p1.2.2)])).length) Slot.unset).toArray = ls at hl ⊢
  have hl : lv_has ls 3 [(0, .ref (gA G p0.1 p0.2.1 p0.2.2)), (1, .ref (gA G p1.1 p1.2.1 p1.2.2))] := hl
  have hX := h
  unfold m_X11_copyNumbers at hX
  have B_2 : ∀ (k2 : Int32 → Mem → Option Mem) (hk2 : ∀ (x2 : Int32) (x : Mem) (H : Heap) (locs : List Loc) (ls : Array Slot), Wh G x y H → va_S (gF G) s.heap H locs → lv_has ls 3 [(0, .ref (gA G p0.1 p0.2.1 p0.2.2)), (1, .ref (gA G p1.1 p1.2.1 p1.2.2)), (2, .int x2)] → k2 x2 x = some r → W p l e (headSpec WS_X11_copyNumbers RM_X11_copyNumbers).room s m ([.ref (gA G p0.1 p0.2.1 p0.2.2), .ref (gA G p1.1 p1.2.1 p1.2.2)] : List Value).toArray below meth c H locs 0 0 (MQ below (Qv G r y) ([.ref (gA G p0.1 p0.2.1 p0.2.2), .ref (gA G p1.1 p1.2.1 p1.2.2)] : List Value).toArray s 0 0 (gF G)) (F0 m 2 ls [])), ∀ (x2 : Int32) (x : Mem) (H : Heap) (locs : List Loc) (ls : Array Slot), Wh G x y H → va_S (gF G) s.heap H locs → lv_has ls 3 [(0, .ref (gA G p0.1 p0.2.1 p0.2.2)), (1, .ref (gA G p1.1 p1.2.1 p1.2.2)), (2, .int x2)] → m_X11_copyNumbers_b2 p0 p0n p1 p1n k2 x2 x = some r → W p l e (headSpec WS_X11_copyNumbers RM_X11_copyNumbers).room s m ([.ref (gA G p0.1 p0.2.1 p0.2.2), .ref (gA G p1.1 p1.2.1 p1.2.2)] : List Value).toArray below meth c H locs 0 0 (MQ below (Qv G r y) ([.ref (gA G p0.1 p0.2.1 p0.2.2), .ref (gA G p1.1 p1.2.1 p1.2.2)] : List Value).toArray s 0 0 (gF G)) (F0 m 2 ls []) := by
    intro k2 hk2 x2 x H locs ls hW hS hl hX
    unfold m_X11_copyNumbers_b2 at hX
    refine lv_iload_n hx hb dX11_copyNumbers_2 rfl (lv_at hl 2 rfl) ?_
    refine lv_aload_n hx hb dX11_copyNumbers_3 rfl (lv_at hl 0 rfl) ?_
    refine an_hc hx hb hK hW hA_p0 dX11_copyNumbers_4 ?_
    refine lv_icmp_ge (tgt := 26) hx hb dX11_copyNumbers_5 (by decide) (fun c2 => ?_) (fun c2 => ?_)
    · have hX := it_t hX c2
      have hX := Option.some.inj hX
      subst hX
      exact rt_v hx hb hr hlocks hW hS dX11_copyNumbers_26
    · have hX := it_f hX c2
      refine lv_iload_n hx hb dX11_copyNumbers_8 rfl (lv_at hl 2 rfl) ?_
      refine lv_aload_n hx hb dX11_copyNumbers_9 rfl (lv_at hl 1 rfl) ?_
      refine an_hc hx hb hK hW hA_p1 dX11_copyNumbers_10 ?_
      refine lv_icmp_ge (tgt := 26) hx hb dX11_copyNumbers_11 (by decide) (fun c3 => ?_) (fun c3 => ?_)
      · have hX := it_t hX c3
        have hX := Option.some.inj hX
        subst hX
        exact rt_v hx hb hr hlocks hW hS dX11_copyNumbers_26
      · have hX := it_f hX c3
        refine lv_aload_n hx hb dX11_copyNumbers_14 rfl (lv_at hl 1 rfl) ?_
        refine lv_iload_n hx hb dX11_copyNumbers_15 rfl (lv_at hl 2 rfl) ?_
        refine lv_aload_n hx hb dX11_copyNumbers_16 rfl (lv_at hl 0 rfl) ?_
        refine lv_iload_n hx hb dX11_copyNumbers_17 rfl (lv_at hl 2 rfl) ?_
        obtain ⟨g4, hX⟩ := gd_go hX
        refine al_hc hx hb hK hW hA_p0 hB_p0 g4 dX11_copyNumbers_18 ?_
        obtain ⟨g5, hX⟩ := gd_go hX
        refine as_hc hx hb hK hW hS hA_p1 hB_p1 g5 dX11_copyNumbers_19 (fun H locs hW hS => ?_)
        obtain ⟨x6, e9⟩ : ∃ w : Mem, w = (up4 x p1.1 p1.2.1 p1.2.2 x2.toNatClampNeg (x p0.1 p0.2.1 p0.2.2 x2.toNatClampNeg)) := ⟨_, rfl⟩
        rw [← e9] at hW
        have hX := lt_go hX e9
        obtain ⟨x2_7, e9⟩ : ∃ w : Int32, w = (x2 + (1 : Int32)) := ⟨_, rfl⟩
        have hX := lt_go hX e9
        refine lv_iinc (v := x2_7) (lv' := [(2, .int x2_7), (0, .ref (gA G p0.1 p0.2.1 p0.2.2)), (1, .ref (gA G p1.1 p1.2.1 p1.2.2))]) hx hb dX11_copyNumbers_20 hl (k := 2) rfl (by rw [e9]; rfl) (by decide) rfl (fun ls hl => ?_)
        refine lv_goto (tgt := 2) hx hb dX11_copyNumbers_23 (by decide) ?_
        exact hk2 _ _ _ _ _ hW hS (lv_sub hl [1, 2, 0] rfl) hX
  have L_2 : ∀ (n : Nat), ∀ (x2 : Int32) (x : Mem) (H : Heap) (locs : List Loc) (ls : Array Slot), Wh G x y H → va_S (gF G) s.heap H locs → lv_has ls 3 [(0, .ref (gA G p0.1 p0.2.1 p0.2.2)), (1, .ref (gA G p1.1 p1.2.1 p1.2.2)), (2, .int x2)] → m_X11_copyNumbers_l2 p0 p0n p1 p1n n x2 x = some r → W p l e (headSpec WS_X11_copyNumbers RM_X11_copyNumbers).room s m ([.ref (gA G p0.1 p0.2.1 p0.2.2), .ref (gA G p1.1 p1.2.1 p1.2.2)] : List Value).toArray below meth c H locs 0 0 (MQ below (Qv G r y) ([.ref (gA G p0.1 p0.2.1 p0.2.2), .ref (gA G p1.1 p1.2.1 p1.2.2)] : List Value).toArray s 0 0 (gF G)) (F0 m 2 ls []) := by
    intro n
    induction n with
    | zero => intro x2 x H locs ls hW hS hl hX; exact no_go hX
    | succ n ih => intro x2 x H locs ls hW hS hl hX; exact B_2 _ ih _ _ _ _ _ hW hS hl hX
  refine lv_iconst (v := (0 : Int32)) hx hb dX11_copyNumbers_0 (by decide) ?_
  refine lv_topi (fun x2_1 e9 => ?_)
  have hX := lt_go hX e9
  refine lv_istore_n (lv' := [(2, .int x2_1), (0, .ref (gA G p0.1 p0.2.1 p0.2.2)), (1, .ref (gA G p1.1 p1.2.1 p1.2.2))]) hx hb dX11_copyNumbers_1 rfl hl (by decide) rfl (fun ls hl => ?_)
  exact L_2 FU _ _ _ _ _ hW hS (lv_sub hl [1, 2, 0] rfl) hX
set_option maxHeartbeats 4000000 in
theorem k_X11_copyNumbers {p : Program} {l : Launch} {e : Env} {R : Room} {s : State} {m : MethodId} {args : Array Value} {below : List Frame} {meth : Method} {c : Code} {H : Heap} {locs : List Loc} {cells slots : Nat} {Q : State → Prop} {cc : ByteArray} {pc nL idx : Nat} {own : String} {ls : Array Slot} {rest : List Value} {G : Geo} {x y : Mem} {H0 : Heap} {p0 : Nat × Nat × Nat} {p0n : Nat} {p1 : Nat × Nat × Nat} {p1n : Nat} {z : Mem} (hx : p.tables.exec = Jvm.exec) (hb : c.code = cc) (hml : c.maxLocals = nL) (hown : s.vm.findClass own = some m.cls) (htg : ∀ w ∈ wsG, w.before args s = true) (hK : Kt G s) (hW : Wh G x y H) (hS : va_S (gF G) H0 H locs) (hA_p0 : Ia p0 p0n) (hB_p0 : p0.1 < 40) (hA_p1 : Ia p1 p1n) (hB_p1 : p1.1 < 40) (h : m_X11_copyNumbers p0 p0n p1 p1n x = some z) (hlk : Cond.methodLink own idx yX11_copyNumbers ∈ wsG) (hn : ls.size = nL) (hr : (rest.map fun v => v.category).sum ≤ 8) (hR1 : 0 + 1 ≤ R.frames) (hR2 : 8 + (3 + 11) + 0 ≤ R.locals) (hf : cells ≤ R.cells ∧ slots ≤ R.slots) (hdg : decode cc pc = .ok (.invokestatic idx, 3)) (kk : ∀ (H1 : Heap) (locs1 : List Loc), Wh G z y H1 → va_S (gF G) H0 H1 locs1 → W p l e R s m args below meth c H1 locs1 cells slots Q (F0 m (pc + 3) ls (rest))) : W p l e R s m args below meth c H locs cells slots Q (F0 m pc ls (.ref (gA G p1.1 p1.2.1 p1.2.2) :: .ref (gA G p0.1 p0.2.1 p0.2.2) :: rest)) := by
  refine va_callv (va_runS (As := [.ref (gA G p0.1 p0.2.1 p0.2.2), .ref (gA G p1.1 p1.2.1 p1.2.2)]) (rest := rest) ⟨hx, hb, hml, hown, htg⟩ (c_X11_copyNumbers l G x y p0 p0n p1 p1n hA_p0 hB_p0 hA_p1 hB_p1 z h) (va_cwS 2 htg (gd_S hlk q251 q2 q252) rfl rfl rfl (by decide +kernel) ⟨hR1, hR2⟩) ⟨fun a U g mk q => ⟨q.1, q.2.1.calling, q.2.2⟩, fun U hU hW9 => ⟨rfl, hK.warm hW9, by rw [hU]; exact hW⟩⟩ rfl rfl hn rfl (lv_room hr) hdg hf) hS (fun _ _ h9 => h9) (fun _ h9 => h9) ?_
  intro u t H1 locs1 ht hvm hw hB hz1 hk1 hS1
  replace hB : Wh G z y t.heap := hB
  rw [ht] at hB
  exact kk H1 locs1 hB hS1
set_option maxHeartbeats 4000000 in
theorem k_X11_copyNumbers_n {p : Program} {l : Launch} {e : Env} {R : Room} {s : State} {m : MethodId} {args : Array Value} {below : List Frame} {meth : Method} {c : Code} {H : Heap} {locs : List Loc} {cells slots : Nat} {Q : State → Prop} {cc : ByteArray} {pc nL idx : Nat} {own : String} {ls : Array Slot} {rest : List Value} {G : Geo} {x y : Mem} {H0 : Heap} {p0 : Nat × Nat × Nat} {p0n : Nat} {p1 : Nat × Nat × Nat} {p1n : Nat} {z : Mem} (hx : p.tables.exec = Jvm.exec) (hb : c.code = cc) (hml : c.maxLocals = nL) (hown : s.vm.findClass own = some m.cls) (htg : ∀ w ∈ wsG, w.before args s = true) (hK : Kt G s) (hW : Wh G x y H) (hS : va_S (gF G) H0 H locs) (hA_p0 : Ia p0 p0n) (hB_p0 : p0.1 < 40) (hA_p1 : Ia p1 p1n) (hB_p1 : p1.1 < 40) (h : m_X11_copyNumbers p0 p0n p1 p1n x = some z) (hlk : Cond.methodLinkNest own idx yX11_copyNumbers "RobotCell" ∈ nestW) (hn : ls.size = nL) (hr : (rest.map fun v => v.category).sum ≤ 8) (hR1 : 0 + 1 ≤ R.frames) (hR2 : 8 + (3 + 11) + 0 ≤ R.locals) (hf : cells ≤ R.cells ∧ slots ≤ R.slots) (hdg : decode cc pc = .ok (.invokestatic idx, 3)) (kk : ∀ (H1 : Heap) (locs1 : List Loc), Wh G z y H1 → va_S (gF G) H0 H1 locs1 → W p l e R s m args below meth c H1 locs1 cells slots Q (F0 m (pc + 3) ls (rest))) : W p l e R s m args below meth c H locs cells slots Q (F0 m pc ls (.ref (gA G p1.1 p1.2.1 p1.2.2) :: .ref (gA G p0.1 p0.2.1 p0.2.2) :: rest)) := by
  refine va_callv (va_runSN (As := [.ref (gA G p0.1 p0.2.1 p0.2.2), .ref (gA G p1.1 p1.2.1 p1.2.2)]) (rest := rest) ⟨hx, hb, hml, hown, htg⟩ (c_X11_copyNumbers l G x y p0 p0n p1 p1n hA_p0 hB_p0 hA_p1 hB_p1 z h) ⟨va_cnB 2 htg (gd_N q252) rfl rfl rfl (hK.2 _ hlk) (htg _ q2) (by decide +kernel) ⟨hR1, hR2⟩, htg _ q251, trivial⟩ ⟨fun a U g mk q => ⟨q.1, q.2.1.calling, q.2.2⟩, fun U hU hW9 => ⟨rfl, hK.warm hW9, by rw [hU]; exact hW⟩⟩ rfl rfl hn rfl (lv_room hr) hdg hf) hS (fun _ _ h9 => h9) (fun _ h9 => h9) ?_
  intro u t H1 locs1 ht hvm hw hB hz1 hk1 hS1
  replace hB : Wh G z y t.heap := hB
  rw [ht] at hB
  exact kk H1 locs1 hB hS1
/-! METHOD X0_copyFrom -/
def m_X0_copyFrom (p0 : Fin 10 × Fin 4) (p1 : Fin 10 × Fin 4) (x : Mem) : Option Mem :=
  lt_ (up4 x 0 ↑p0.1 ↑p0.2 1 (x 0 ↑p1.1 ↑p1.2 1)) fun x1 => lt_ (up4 x1 0 ↑p0.1 ↑p0.2 2 (x1 0 ↑p1.1 ↑p1.2 2)) fun x2 => lt_ (up4 x2 0 ↑p0.1 ↑p0.2 3 (x2 0 ↑p1.1 ↑p1.2 3)) fun x3 => lt_ (up4 x3 0 ↑p0.1 ↑p0.2 4 (x3 0 ↑p1.1 ↑p1.2 4)) fun x4 => lt_ (up4 x4 0 ↑p0.1 ↑p0.2 5 (x4 0 ↑p1.1 ↑p1.2 5)) fun x5 => lt_ (up4 x5 0 ↑p0.1 ↑p0.2 6 (x5 0 ↑p1.1 ↑p1.2 6)) fun x6 => lt_ (up4 x6 0 ↑p0.1 ↑p0.2 7 (x6 0 ↑p1.1 ↑p1.2 7)) fun x7 => lt_ (up4 x7 0 ↑p0.1 ↑p0.2 8 (x7 0 ↑p1.1 ↑p1.2 8)) fun x8 => lt_ (up4 x8 0 ↑p0.1 ↑p0.2 9 (x8 0 ↑p1.1 ↑p1.2 9)) fun x9 => lt_ (up4 x9 0 ↑p0.1 ↑p0.2 10 (x9 0 ↑p1.1 ↑p1.2 10)) fun x10 => lt_ (up4 x10 0 ↑p0.1 ↑p0.2 11 (x10 0 ↑p1.1 ↑p1.2 11)) fun x11 => lt_ (up4 x11 0 ↑p0.1 ↑p0.2 12 (x11 0 ↑p1.1 ↑p1.2 12)) fun x12 => bd_ (m_X11_copyNumbers (1, ↑p1.1, ↑p1.2) 30 (1, ↑p0.1, ↑p0.2) 30 x12) fun x15 => some x15
abbrev WS_X0_copyFrom : List Cond := .code yX0_copyFrom cX0_copyFrom 2 none :: wsG
abbrev RM_X0_copyFrom : Room := { frames := 1, cells := 0, slots := 0, locals := 22 }
set_option maxHeartbeats 4000000 in
set_option maxRecDepth 100000 in
theorem c_X0_copyFrom (l : Launch) (G : Geo) (x y : Mem) (p0 : Fin 10 × Fin 4) (p1 : Fin 10 × Fin 4) (r : Mem) (h : m_X0_copyFrom p0 p1 x = some r) : Met l yX0_copyFrom WS_X0_copyFrom RM_X0_copyFrom (Pw G x y [.ref (gA G 0 ↑p0.1 ↑p0.2), .ref (gA G 0 ↑p1.1 ↑p1.2)]) (Qv G r y) 0 0 (gF G) := by
  refine Met.ofW (cc := cX0_copyFrom) (maxL := 2) (ret := none) (by decide) rfl ?_
  intro p e s m args below meth c s₁ B hml hv
  obtain ⟨rfl, hK, hW⟩ := hv
  have hx := B.exec
  have hb := B.bytes
  have hr := B.returns
  have hts := atoms_spec (ws := WS_X0_copyFrom) B.pre
  have htg : ∀ w ∈ wsG, w.before _ s = true := fun w h => hts w (List.mem_cons_of_mem _ h)
  have hown : s.vm.findClass RX0 = some m.cls := findClass_of_methodNamed B.named
  have hlocks := B.notSynchronized
  have hS : va_S (gF G) s.heap s.heap [] := va_S.rf
  have hl := lv_entry ([.ref (gA G 0 ↑p0.1 ↑p0.2), .ref (gA G 0 ↑p1.1 ↑p1.2)]) (n := 2) (Nat.le_of_ble_eq_true rfl)
  rw [lg_entry_eq]
  generalize (lg_sl ([.ref (gA G 0 ↑p0.1 ↑p0.2), .ref (gA G 0 ↑p1.1 ↑p1.2)]) ++ List.replicate (2 - (lg_sl ([.ref (gA G 0 ↑p0.1 ↑p0.2), .ref (gA G 0 ↑p1.1 ↑p1.2)])).length) Slot.unset).toArray = ls at hl ⊢
  have hl : lv_has ls 2 [(0, .ref (gA G 0 ↑p0.1 ↑p0.2)), (1, .ref (gA G 0 ↑p1.1 ↑p1.2))] := hl
  have hX := h
  unfold m_X0_copyFrom at hX
  refine lv_aload_n hx hb dX0_copyFrom_0 rfl (lv_at hl 0 rfl) ?_
  refine lv_aload_n hx hb dX0_copyFrom_1 rfl (lv_at hl 1 rfl) ?_
  refine gf_0_1 hx hb htg hown hK hW p1 q77 dX0_copyFrom_2 ?_
  refine pf_0_1 hx hb htg hown hK hW hS p0 q77 dX0_copyFrom_5 (fun H locs hW hS => ?_)
  obtain ⟨x1, e9⟩ : ∃ w : Mem, w = (up4 x 0 ↑p0.1 ↑p0.2 1 (x 0 ↑p1.1 ↑p1.2 1)) := ⟨_, rfl⟩
  rw [← e9] at hW
  have hX := lt_go hX e9
  refine lv_aload_n hx hb dX0_copyFrom_8 rfl (lv_at hl 0 rfl) ?_
  refine lv_aload_n hx hb dX0_copyFrom_9 rfl (lv_at hl 1 rfl) ?_
  refine gf_0_2 hx hb htg hown hK hW p1 q78 dX0_copyFrom_10 ?_
  refine pf_0_2 hx hb htg hown hK hW hS p0 q78 dX0_copyFrom_13 (fun H locs hW hS => ?_)
  obtain ⟨x2, e9⟩ : ∃ w : Mem, w = (up4 x1 0 ↑p0.1 ↑p0.2 2 (x1 0 ↑p1.1 ↑p1.2 2)) := ⟨_, rfl⟩
  rw [← e9] at hW
  have hX := lt_go hX e9
  refine lv_aload_n hx hb dX0_copyFrom_16 rfl (lv_at hl 0 rfl) ?_
  refine lv_aload_n hx hb dX0_copyFrom_17 rfl (lv_at hl 1 rfl) ?_
  refine gf_0_3 hx hb htg hown hK hW p1 q79 dX0_copyFrom_18 ?_
  refine pf_0_3 hx hb htg hown hK hW hS p0 q79 dX0_copyFrom_21 (fun H locs hW hS => ?_)
  obtain ⟨x3, e9⟩ : ∃ w : Mem, w = (up4 x2 0 ↑p0.1 ↑p0.2 3 (x2 0 ↑p1.1 ↑p1.2 3)) := ⟨_, rfl⟩
  rw [← e9] at hW
  have hX := lt_go hX e9
  refine lv_aload_n hx hb dX0_copyFrom_24 rfl (lv_at hl 0 rfl) ?_
  refine lv_aload_n hx hb dX0_copyFrom_25 rfl (lv_at hl 1 rfl) ?_
  refine gf_0_4 hx hb htg hown hK hW p1 q262 dX0_copyFrom_26 ?_
  refine pf_0_4 hx hb htg hown hK hW hS p0 q262 dX0_copyFrom_29 (fun H locs hW hS => ?_)
  obtain ⟨x4, e9⟩ : ∃ w : Mem, w = (up4 x3 0 ↑p0.1 ↑p0.2 4 (x3 0 ↑p1.1 ↑p1.2 4)) := ⟨_, rfl⟩
  rw [← e9] at hW
  have hX := lt_go hX e9
  refine lv_aload_n hx hb dX0_copyFrom_32 rfl (lv_at hl 0 rfl) ?_
  refine lv_aload_n hx hb dX0_copyFrom_33 rfl (lv_at hl 1 rfl) ?_
  refine gf_0_5 hx hb htg hown hK hW p1 q263 dX0_copyFrom_34 ?_
  refine pf_0_5 hx hb htg hown hK hW hS p0 q263 dX0_copyFrom_37 (fun H locs hW hS => ?_)
  obtain ⟨x5, e9⟩ : ∃ w : Mem, w = (up4 x4 0 ↑p0.1 ↑p0.2 5 (x4 0 ↑p1.1 ↑p1.2 5)) := ⟨_, rfl⟩
  rw [← e9] at hW
  have hX := lt_go hX e9
  refine lv_aload_n hx hb dX0_copyFrom_40 rfl (lv_at hl 0 rfl) ?_
  refine lv_aload_n hx hb dX0_copyFrom_41 rfl (lv_at hl 1 rfl) ?_
  refine gf_0_6 hx hb htg hown hK hW p1 q264 dX0_copyFrom_42 ?_
  refine pf_0_6 hx hb htg hown hK hW hS p0 q264 dX0_copyFrom_45 (fun H locs hW hS => ?_)
  obtain ⟨x6, e9⟩ : ∃ w : Mem, w = (up4 x5 0 ↑p0.1 ↑p0.2 6 (x5 0 ↑p1.1 ↑p1.2 6)) := ⟨_, rfl⟩
  rw [← e9] at hW
  have hX := lt_go hX e9
  refine lv_aload_n hx hb dX0_copyFrom_48 rfl (lv_at hl 0 rfl) ?_
  refine lv_aload_n hx hb dX0_copyFrom_49 rfl (lv_at hl 1 rfl) ?_
  refine gf_0_7 hx hb htg hown hK hW p1 q265 dX0_copyFrom_50 ?_
  refine pf_0_7 hx hb htg hown hK hW hS p0 q265 dX0_copyFrom_53 (fun H locs hW hS => ?_)
  obtain ⟨x7, e9⟩ : ∃ w : Mem, w = (up4 x6 0 ↑p0.1 ↑p0.2 7 (x6 0 ↑p1.1 ↑p1.2 7)) := ⟨_, rfl⟩
  rw [← e9] at hW
  have hX := lt_go hX e9
  refine lv_aload_n hx hb dX0_copyFrom_56 rfl (lv_at hl 0 rfl) ?_
  refine lv_aload_n hx hb dX0_copyFrom_57 rfl (lv_at hl 1 rfl) ?_
  refine gf_0_8 hx hb htg hown hK hW p1 q266 dX0_copyFrom_58 ?_
  refine pf_0_8 hx hb htg hown hK hW hS p0 q266 dX0_copyFrom_61 (fun H locs hW hS => ?_)
  obtain ⟨x8, e9⟩ : ∃ w : Mem, w = (up4 x7 0 ↑p0.1 ↑p0.2 8 (x7 0 ↑p1.1 ↑p1.2 8)) := ⟨_, rfl⟩
  rw [← e9] at hW
  have hX := lt_go hX e9
  refine lv_aload_n hx hb dX0_copyFrom_64 rfl (lv_at hl 0 rfl) ?_
  refine lv_aload_n hx hb dX0_copyFrom_65 rfl (lv_at hl 1 rfl) ?_
  refine gf_0_9 hx hb htg hown hK hW p1 q267 dX0_copyFrom_66 ?_
  refine pf_0_9 hx hb htg hown hK hW hS p0 q267 dX0_copyFrom_69 (fun H locs hW hS => ?_)
  obtain ⟨x9, e9⟩ : ∃ w : Mem, w = (up4 x8 0 ↑p0.1 ↑p0.2 9 (x8 0 ↑p1.1 ↑p1.2 9)) := ⟨_, rfl⟩
  rw [← e9] at hW
  have hX := lt_go hX e9
  refine lv_aload_n hx hb dX0_copyFrom_72 rfl (lv_at hl 0 rfl) ?_
  refine lv_aload_n hx hb dX0_copyFrom_73 rfl (lv_at hl 1 rfl) ?_
  refine gf_0_10 hx hb htg hown hK hW p1 q268 dX0_copyFrom_74 ?_
  refine pf_0_10 hx hb htg hown hK hW hS p0 q268 dX0_copyFrom_77 (fun H locs hW hS => ?_)
  obtain ⟨x10, e9⟩ : ∃ w : Mem, w = (up4 x9 0 ↑p0.1 ↑p0.2 10 (x9 0 ↑p1.1 ↑p1.2 10)) := ⟨_, rfl⟩
  rw [← e9] at hW
  have hX := lt_go hX e9
  refine lv_aload_n hx hb dX0_copyFrom_80 rfl (lv_at hl 0 rfl) ?_
  refine lv_aload_n hx hb dX0_copyFrom_81 rfl (lv_at hl 1 rfl) ?_
  refine gf_0_11 hx hb htg hown hK hW p1 q269 dX0_copyFrom_82 ?_
  refine pf_0_11 hx hb htg hown hK hW hS p0 q269 dX0_copyFrom_85 (fun H locs hW hS => ?_)
  obtain ⟨x11, e9⟩ : ∃ w : Mem, w = (up4 x10 0 ↑p0.1 ↑p0.2 11 (x10 0 ↑p1.1 ↑p1.2 11)) := ⟨_, rfl⟩
  rw [← e9] at hW
  have hX := lt_go hX e9
  refine lv_aload_n hx hb dX0_copyFrom_88 rfl (lv_at hl 0 rfl) ?_
  refine lv_aload_n hx hb dX0_copyFrom_89 rfl (lv_at hl 1 rfl) ?_
  refine gf_0_12 hx hb htg hown hK hW p1 q270 dX0_copyFrom_90 ?_
  refine pf_0_12 hx hb htg hown hK hW hS p0 q270 dX0_copyFrom_93 (fun H locs hW hS => ?_)
  obtain ⟨x12, e9⟩ : ∃ w : Mem, w = (up4 x11 0 ↑p0.1 ↑p0.2 12 (x11 0 ↑p1.1 ↑p1.2 12)) := ⟨_, rfl⟩
  rw [← e9] at hW
  have hX := lt_go hX e9
  refine lv_aload_n hx hb dX0_copyFrom_96 rfl (lv_at hl 1 rfl) ?_
  refine gf_0_13 hx hb htg hown hK hW p1 q80 dX0_copyFrom_97 ?_
  refine lv_aload_n hx hb dX0_copyFrom_100 rfl (lv_at hl 0 rfl) ?_
  refine gf_0_13 hx hb htg hown hK hW p0 q80 dX0_copyFrom_101 ?_
  obtain ⟨x15, h13, hX⟩ := bd_go hX
  refine k_X11_copyNumbers_n hx hb hml hown htg hK hW hS (ia_1 p1) (show (1 : Nat) < 40 by decide) (ia_1 p0) (show (1 : Nat) < 40 by decide) h13 (List.mem_of_getElem? (i := 3) rfl) hl.1 (Nat.le_of_ble_eq_true rfl) (Nat.le_of_ble_eq_true rfl) (Nat.le_of_ble_eq_true rfl) ⟨Nat.zero_le _, Nat.zero_le _⟩ dX0_copyFrom_104 (fun H locs hW hS => ?_)
  have hX := Option.some.inj hX
  subst hX
  exact rt_v hx hb hr hlocks hW hS dX0_copyFrom_107
set_option maxHeartbeats 4000000 in
theorem k_X0_copyFrom {p : Program} {l : Launch} {e : Env} {R : Room} {s : State} {m : MethodId} {args : Array Value} {below : List Frame} {meth : Method} {c : Code} {H : Heap} {locs : List Loc} {cells slots : Nat} {Q : State → Prop} {cc : ByteArray} {pc nL idx : Nat} {own : String} {ls : Array Slot} {rest : List Value} {G : Geo} {x y : Mem} {H0 : Heap} {p0 : Fin 10 × Fin 4} {p1 : Fin 10 × Fin 4} {z : Mem} (hx : p.tables.exec = Jvm.exec) (hb : c.code = cc) (hml : c.maxLocals = nL) (hown : s.vm.findClass own = some m.cls) (htg : ∀ w ∈ wsG, w.before args s = true) (hK : Kt G s) (hW : Wh G x y H) (hS : va_S (gF G) H0 H locs) (h : m_X0_copyFrom p0 p1 x = some z) (hlk : Cond.methodLink own idx yX0_copyFrom ∈ wsG) (hn : ls.size = nL) (hr : (rest.map fun v => v.category).sum ≤ 8) (hR1 : 1 + 1 ≤ R.frames) (hR2 : 8 + (2 + 11) + 22 ≤ R.locals) (hf : cells ≤ R.cells ∧ slots ≤ R.slots) (hdg : decode cc pc = .ok (.invokevirtual idx, 3)) (kk : ∀ (H1 : Heap) (locs1 : List Loc), Wh G z y H1 → va_S (gF G) H0 H1 locs1 → W p l e R s m args below meth c H1 locs1 cells slots Q (F0 m (pc + 3) ls (rest))) : W p l e R s m args below meth c H locs cells slots Q (F0 m pc ls (.ref (gA G 0 ↑p1.1 ↑p1.2) :: .ref (gA G 0 ↑p0.1 ↑p0.2) :: rest)) := by
  refine va_callv (va_runV (As := [.ref (gA G 0 ↑p1.1 ↑p1.2)]) (rest := rest) ⟨hx, hb, hml, hown, htg⟩ (c_X0_copyFrom l G x y p0 p1 z h) (cwV 1 htg (gd_V hlk q259 q260 q47 q261) rfl rfl rfl (by decide +kernel) ⟨hR1, hR2⟩) ⟨fun a U g mk q => ⟨q.1, q.2.1.calling, q.2.2⟩, rc_0 hK hW p0, fun U hU hW9 => ⟨rfl, hK.warm hW9, by rw [hU]; exact hW⟩⟩ rfl rfl hn rfl (lv_room hr) hdg hf) hS (fun _ _ h9 => h9) (fun _ h9 => h9) ?_
  intro u t H1 locs1 ht hvm hw hB hz1 hk1 hS1
  replace hB : Wh G z y t.heap := hB
  rw [ht] at hB
  exact kk H1 locs1 hB hS1
/-! METHOD X0_lastHeldPlace -/
def m_X0_lastHeldPlace (p0 : Fin 10 × Fin 4) (x : Mem) : Option Int32 :=
  if (x 0 ↑p0.1 ↑p0.2 2) = (2 : Int32) then (some ((x 0 ↑p0.1 ↑p0.2 4) + (1 : Int32))) else (some (x 0 ↑p0.1 ↑p0.2 4))
abbrev WS_X0_lastHeldPlace : List Cond := .code yX0_lastHeldPlace cX0_lastHeldPlace 1 (some .int) :: wsG
abbrev RM_X0_lastHeldPlace : Room := { frames := 0, cells := 0, slots := 0, locals := 0 }
set_option maxHeartbeats 4000000 in
set_option maxRecDepth 100000 in
theorem c_X0_lastHeldPlace (l : Launch) (G : Geo) (x y : Mem) (p0 : Fin 10 × Fin 4) (r : Int32) (h : m_X0_lastHeldPlace p0 x = some r) : Met l yX0_lastHeldPlace WS_X0_lastHeldPlace RM_X0_lastHeldPlace (Pw G x y [.ref (gA G 0 ↑p0.1 ↑p0.2)]) (Qi G x y r) 0 0 (gF G) := by
  refine Met.ofW (cc := cX0_lastHeldPlace) (maxL := 1) (ret := (some .int)) (by decide) rfl ?_
  intro p e s m args below meth c s₁ B hml hv
  obtain ⟨rfl, hK, hW⟩ := hv
  have hx := B.exec
  have hb := B.bytes
  have hr := B.returns
  have hts := atoms_spec (ws := WS_X0_lastHeldPlace) B.pre
  have htg : ∀ w ∈ wsG, w.before _ s = true := fun w h => hts w (List.mem_cons_of_mem _ h)
  have hown : s.vm.findClass RX0 = some m.cls := findClass_of_methodNamed B.named
  have hlocks := B.notSynchronized
  have hS : va_S (gF G) s.heap s.heap [] := va_S.rf
  have hl := lv_entry ([.ref (gA G 0 ↑p0.1 ↑p0.2)]) (n := 1) (Nat.le_of_ble_eq_true rfl)
  rw [lg_entry_eq]
  generalize (lg_sl ([.ref (gA G 0 ↑p0.1 ↑p0.2)]) ++ List.replicate (1 - (lg_sl ([.ref (gA G 0 ↑p0.1 ↑p0.2)])).length) Slot.unset).toArray = ls at hl ⊢
  have hl : lv_has ls 1 [(0, .ref (gA G 0 ↑p0.1 ↑p0.2))] := hl
  have hX := h
  unfold m_X0_lastHeldPlace at hX
  refine lv_aload_n hx hb dX0_lastHeldPlace_0 rfl (lv_at hl 0 rfl) ?_
  refine gf_0_2 hx hb htg hown hK hW p0 q78 dX0_lastHeldPlace_1 ?_
  refine lv_iconst (v := (2 : Int32)) hx hb dX0_lastHeldPlace_4 (by decide) ?_
  refine lv_icmp_ne (tgt := 17) hx hb dX0_lastHeldPlace_5 (by decide) (fun c1 => ?_) (fun c1 => ?_)
  · have hX := it_f hX c1
    refine lv_aload_n hx hb dX0_lastHeldPlace_17 rfl (lv_at hl 0 rfl) ?_
    refine gf_0_4 hx hb htg hown hK hW p0 q262 dX0_lastHeldPlace_18 ?_
    have hX := Option.some.inj hX
    subst hX
    exact rt_i hx hb hr hlocks hW hS dX0_lastHeldPlace_21
  · have hX := it_t hX c1
    refine lv_aload_n hx hb dX0_lastHeldPlace_8 rfl (lv_at hl 0 rfl) ?_
    refine gf_0_4 hx hb htg hown hK hW p0 q262 dX0_lastHeldPlace_9 ?_
    refine lv_iconst (v := (1 : Int32)) hx hb dX0_lastHeldPlace_12 (by decide) ?_
    refine lv_iadd hx hb dX0_lastHeldPlace_13 ?_
    refine lv_goto (tgt := 21) hx hb dX0_lastHeldPlace_14 (by decide) ?_
    have hX := Option.some.inj hX
    subst hX
    exact rt_i hx hb hr hlocks hW hS dX0_lastHeldPlace_21
set_option maxHeartbeats 4000000 in
theorem k_X0_lastHeldPlace {p : Program} {l : Launch} {e : Env} {R : Room} {s : State} {m : MethodId} {args : Array Value} {below : List Frame} {meth : Method} {c : Code} {H : Heap} {locs : List Loc} {cells slots : Nat} {Q : State → Prop} {cc : ByteArray} {pc nL idx : Nat} {own : String} {ls : Array Slot} {rest : List Value} {G : Geo} {x y : Mem} {H0 : Heap} {p0 : Fin 10 × Fin 4} {v : Int32} (hx : p.tables.exec = Jvm.exec) (hb : c.code = cc) (hml : c.maxLocals = nL) (hown : s.vm.findClass own = some m.cls) (htg : ∀ w ∈ wsG, w.before args s = true) (hK : Kt G s) (hW : Wh G x y H) (hS : va_S (gF G) H0 H locs) (h : m_X0_lastHeldPlace p0 x = some v) (hlk : Cond.methodLink own idx yX0_lastHeldPlace ∈ wsG) (hn : ls.size = nL) (hr : (rest.map fun v => v.category).sum ≤ 8) (hR1 : 0 + 1 ≤ R.frames) (hR2 : 8 + (1 + 11) + 0 ≤ R.locals) (hf : cells ≤ R.cells ∧ slots ≤ R.slots) (hdg : decode cc pc = .ok (.invokevirtual idx, 3)) (kk : ∀ (H1 : Heap) (locs1 : List Loc), Wh G x y H1 → va_S (gF G) H0 H1 locs1 → W p l e R s m args below meth c H1 locs1 cells slots Q (F0 m (pc + 3) ls (.int v :: rest))) : W p l e R s m args below meth c H locs cells slots Q (F0 m pc ls (.ref (gA G 0 ↑p0.1 ↑p0.2) :: rest)) := by
  refine va_calli (va_runV (As := []) (rest := rest) ⟨hx, hb, hml, hown, htg⟩ (c_X0_lastHeldPlace l G x y p0 v h) (cwV 0 htg (gd_V hlk q727 q728 q47 q729) rfl rfl rfl (by decide +kernel) ⟨hR1, hR2⟩) ⟨fun a U g mk q => ⟨q.1, q.2.1.calling, q.2.2⟩, rc_0 hK hW p0, fun U hU hW9 => ⟨rfl, hK.warm hW9, by rw [hU]; exact hW⟩⟩ rfl rfl hn rfl (lv_room hr) hdg hf) hS (fun _ _ h9 => h9) (fun _ h9 => h9) ?_
  intro r9 u t H1 locs1 ht hvm hw hB hz1 hk1 hS1
  replace hB : Wh G x y t.heap := hB
  rw [ht] at hB
  replace hw : r9 = v := hw
  subst hw
  exact kk H1 locs1 hB hS1
/-! METHOD X0_refuse -/
def m_X0_refuse (p0 : Fin 10 × Fin 4) (p1 : Int32) (p2 : Int32) (p3 : Int32) (x : Mem) : Option Mem :=
  lt_ (up4 x 0 ↑p0.1 ↑p0.2 8 p1) fun x1 => lt_ (up4 x1 0 ↑p0.1 ↑p0.2 9 p2) fun x2 => lt_ (up4 x2 0 ↑p0.1 ↑p0.2 7 p3) fun x3 => lt_ (up4 x3 0 ↑p0.1 ↑p0.2 10 ((x3 0 ↑p0.1 ↑p0.2 10) + (1 : Int32))) fun x4 => if (x4 0 ↑p0.1 ↑p0.2 2) = (1 : Int32) then (lt_ (up4 x4 0 ↑p0.1 ↑p0.2 2 (3 : Int32)) fun x6 => some x6) else (some x4)
abbrev WS_X0_refuse : List Cond := .code yX0_refuse cX0_refuse 4 none :: wsG
abbrev RM_X0_refuse : Room := { frames := 0, cells := 0, slots := 0, locals := 0 }
set_option maxHeartbeats 4000000 in
set_option maxRecDepth 100000 in
theorem c_X0_refuse (l : Launch) (G : Geo) (x y : Mem) (p0 : Fin 10 × Fin 4) (p1 : Int32) (p2 : Int32) (p3 : Int32) (r : Mem) (h : m_X0_refuse p0 p1 p2 p3 x = some r) : Met l yX0_refuse WS_X0_refuse RM_X0_refuse (Pw G x y [.ref (gA G 0 ↑p0.1 ↑p0.2), .int p1, .int p2, .int p3]) (Qv G r y) 0 0 (gF G) := by
  refine Met.ofW (cc := cX0_refuse) (maxL := 4) (ret := none) (by decide) rfl ?_
  intro p e s m args below meth c s₁ B hml hv
  obtain ⟨rfl, hK, hW⟩ := hv
  have hx := B.exec
  have hb := B.bytes
  have hr := B.returns
  have hts := atoms_spec (ws := WS_X0_refuse) B.pre
  have htg : ∀ w ∈ wsG, w.before _ s = true := fun w h => hts w (List.mem_cons_of_mem _ h)
  have hown : s.vm.findClass RX0 = some m.cls := findClass_of_methodNamed B.named
  have hlocks := B.notSynchronized
  have hS : va_S (gF G) s.heap s.heap [] := va_S.rf
  have hl := lv_entry ([.ref (gA G 0 ↑p0.1 ↑p0.2), .int p1, .int p2, .int p3]) (n := 4) (Nat.le_of_ble_eq_true rfl)
  rw [lg_entry_eq]
  generalize (lg_sl ([.ref (gA G 0 ↑p0.1 ↑p0.2), .int p1, .int p2, .int p3]) ++ List.replicate (4 - (lg_sl ([.ref (gA G 0 ↑p0.1 ↑p0.2), .int p1, .int p2, .int p3])).length) Slot.unset).toArray = ls at hl ⊢
  have hl : lv_has ls 4 [(0, .ref (gA G 0 ↑p0.1 ↑p0.2)), (1, .int p1), (2, .int p2), (3, .int p3)] := hl
  have hX := h
  unfold m_X0_refuse at hX
  refine lv_aload_n hx hb dX0_refuse_0 rfl (lv_at hl 0 rfl) ?_
  refine lv_iload_n hx hb dX0_refuse_1 rfl (lv_at hl 1 rfl) ?_
  refine pf_0_8 hx hb htg hown hK hW hS p0 q266 dX0_refuse_2 (fun H locs hW hS => ?_)
  obtain ⟨x1, e9⟩ : ∃ w : Mem, w = (up4 x 0 ↑p0.1 ↑p0.2 8 p1) := ⟨_, rfl⟩
  rw [← e9] at hW
  have hX := lt_go hX e9
  refine lv_aload_n hx hb dX0_refuse_5 rfl (lv_at hl 0 rfl) ?_
  refine lv_iload_n hx hb dX0_refuse_6 rfl (lv_at hl 2 rfl) ?_
  refine pf_0_9 hx hb htg hown hK hW hS p0 q267 dX0_refuse_7 (fun H locs hW hS => ?_)
  obtain ⟨x2, e9⟩ : ∃ w : Mem, w = (up4 x1 0 ↑p0.1 ↑p0.2 9 p2) := ⟨_, rfl⟩
  rw [← e9] at hW
  have hX := lt_go hX e9
  refine lv_aload_n hx hb dX0_refuse_10 rfl (lv_at hl 0 rfl) ?_
  refine lv_iload_n hx hb dX0_refuse_11 rfl (lv_at hl 3 rfl) ?_
  refine pf_0_7 hx hb htg hown hK hW hS p0 q265 dX0_refuse_12 (fun H locs hW hS => ?_)
  obtain ⟨x3, e9⟩ : ∃ w : Mem, w = (up4 x2 0 ↑p0.1 ↑p0.2 7 p3) := ⟨_, rfl⟩
  rw [← e9] at hW
  have hX := lt_go hX e9
  refine lv_aload_n hx hb dX0_refuse_15 rfl (lv_at hl 0 rfl) ?_
  refine lv_dup hx hb dX0_refuse_16 rfl ?_
  refine gf_0_10 hx hb htg hown hK hW p0 q268 dX0_refuse_17 ?_
  refine lv_iconst (v := (1 : Int32)) hx hb dX0_refuse_20 (by decide) ?_
  refine lv_iadd hx hb dX0_refuse_21 ?_
  refine pf_0_10 hx hb htg hown hK hW hS p0 q268 dX0_refuse_22 (fun H locs hW hS => ?_)
  obtain ⟨x4, e9⟩ : ∃ w : Mem, w = (up4 x3 0 ↑p0.1 ↑p0.2 10 ((x3 0 ↑p0.1 ↑p0.2 10) + (1 : Int32))) := ⟨_, rfl⟩
  rw [← e9] at hW
  have hX := lt_go hX e9
  refine lv_aload_n hx hb dX0_refuse_25 rfl (lv_at hl 0 rfl) ?_
  refine gf_0_2 hx hb htg hown hK hW p0 q78 dX0_refuse_26 ?_
  refine lv_iconst (v := (1 : Int32)) hx hb dX0_refuse_29 (by decide) ?_
  refine lv_icmp_ne (tgt := 38) hx hb dX0_refuse_30 (by decide) (fun c5 => ?_) (fun c5 => ?_)
  · have hX := it_f hX c5
    have hX := Option.some.inj hX
    subst hX
    exact rt_v hx hb hr hlocks hW hS dX0_refuse_38
  · have hX := it_t hX c5
    refine lv_aload_n hx hb dX0_refuse_33 rfl (lv_at hl 0 rfl) ?_
    refine lv_iconst (v := (3 : Int32)) hx hb dX0_refuse_34 (by decide) ?_
    refine pf_0_2 hx hb htg hown hK hW hS p0 q78 dX0_refuse_35 (fun H locs hW hS => ?_)
    obtain ⟨x6, e9⟩ : ∃ w : Mem, w = (up4 x4 0 ↑p0.1 ↑p0.2 2 (3 : Int32)) := ⟨_, rfl⟩
    rw [← e9] at hW
    have hX := lt_go hX e9
    have hX := Option.some.inj hX
    subst hX
    exact rt_v hx hb hr hlocks hW hS dX0_refuse_38
set_option maxHeartbeats 4000000 in
theorem k_X0_refuse {p : Program} {l : Launch} {e : Env} {R : Room} {s : State} {m : MethodId} {args : Array Value} {below : List Frame} {meth : Method} {c : Code} {H : Heap} {locs : List Loc} {cells slots : Nat} {Q : State → Prop} {cc : ByteArray} {pc nL idx : Nat} {own : String} {ls : Array Slot} {rest : List Value} {G : Geo} {x y : Mem} {H0 : Heap} {p0 : Fin 10 × Fin 4} {p1 : Int32} {p2 : Int32} {p3 : Int32} {z : Mem} (hx : p.tables.exec = Jvm.exec) (hb : c.code = cc) (hml : c.maxLocals = nL) (hown : s.vm.findClass own = some m.cls) (htg : ∀ w ∈ wsG, w.before args s = true) (hK : Kt G s) (hW : Wh G x y H) (hS : va_S (gF G) H0 H locs) (h : m_X0_refuse p0 p1 p2 p3 x = some z) (hlk : Cond.methodLink own idx yX0_refuse ∈ wsG) (hn : ls.size = nL) (hr : (rest.map fun v => v.category).sum ≤ 8) (hR1 : 0 + 1 ≤ R.frames) (hR2 : 8 + (4 + 11) + 0 ≤ R.locals) (hf : cells ≤ R.cells ∧ slots ≤ R.slots) (hdg : decode cc pc = .ok (.invokevirtual idx, 3)) (kk : ∀ (H1 : Heap) (locs1 : List Loc), Wh G z y H1 → va_S (gF G) H0 H1 locs1 → W p l e R s m args below meth c H1 locs1 cells slots Q (F0 m (pc + 3) ls (rest))) : W p l e R s m args below meth c H locs cells slots Q (F0 m pc ls (.int p3 :: .int p2 :: .int p1 :: .ref (gA G 0 ↑p0.1 ↑p0.2) :: rest)) := by
  refine va_callv (va_runV (As := [.int p1, .int p2, .int p3]) (rest := rest) ⟨hx, hb, hml, hown, htg⟩ (c_X0_refuse l G x y p0 p1 p2 p3 z h) (cwV 3 htg (gd_V hlk q789 q790 q47 q791) rfl rfl rfl (by decide +kernel) ⟨hR1, hR2⟩) ⟨fun a U g mk q => ⟨q.1, q.2.1.calling, q.2.2⟩, rc_0 hK hW p0, fun U hU hW9 => ⟨rfl, hK.warm hW9, by rw [hU]; exact hW⟩⟩ rfl rfl hn rfl (lv_room hr) hdg hf) hS (fun _ _ h9 => h9) (fun _ h9 => h9) ?_
  intro u t H1 locs1 ht hvm hw hB hz1 hk1 hS1
  replace hB : Wh G z y t.heap := hB
  rw [ht] at hB
  exact kk H1 locs1 hB hS1
/-! METHOD X0_rowAt -/
def m_X0_rowAt (p0 : Fin 10 × Fin 4) (p1 : Int32) (x : Mem) : Option Int32 :=
  if p1 < 0 then (some (-1 : Int32)) else (if (x 0 ↑p0.1 ↑p0.2 12) ≤ p1 then (some (-1 : Int32)) else (if (30 : Int32) ≤ p1 then (some (-1 : Int32)) else (gd_ p1 30 (some (x 1 ↑p0.1 ↑p0.2 p1.toNatClampNeg)))))
abbrev WS_X0_rowAt : List Cond := .code yX0_rowAt cX0_rowAt 2 (some .int) :: wsG
abbrev RM_X0_rowAt : Room := { frames := 0, cells := 0, slots := 0, locals := 0 }
set_option maxHeartbeats 4000000 in
set_option maxRecDepth 100000 in
theorem c_X0_rowAt (l : Launch) (G : Geo) (x y : Mem) (p0 : Fin 10 × Fin 4) (p1 : Int32) (r : Int32) (h : m_X0_rowAt p0 p1 x = some r) : Met l yX0_rowAt WS_X0_rowAt RM_X0_rowAt (Pw G x y [.ref (gA G 0 ↑p0.1 ↑p0.2), .int p1]) (Qi G x y r) 0 0 (gF G) := by
  refine Met.ofW (cc := cX0_rowAt) (maxL := 2) (ret := (some .int)) (by decide) rfl ?_
  intro p e s m args below meth c s₁ B hml hv
  obtain ⟨rfl, hK, hW⟩ := hv
  have hx := B.exec
  have hb := B.bytes
  have hr := B.returns
  have hts := atoms_spec (ws := WS_X0_rowAt) B.pre
  have htg : ∀ w ∈ wsG, w.before _ s = true := fun w h => hts w (List.mem_cons_of_mem _ h)
  have hown : s.vm.findClass RX0 = some m.cls := findClass_of_methodNamed B.named
  have hlocks := B.notSynchronized
  have hS : va_S (gF G) s.heap s.heap [] := va_S.rf
  have hl := lv_entry ([.ref (gA G 0 ↑p0.1 ↑p0.2), .int p1]) (n := 2) (Nat.le_of_ble_eq_true rfl)
  rw [lg_entry_eq]
  generalize (lg_sl ([.ref (gA G 0 ↑p0.1 ↑p0.2), .int p1]) ++ List.replicate (2 - (lg_sl ([.ref (gA G 0 ↑p0.1 ↑p0.2), .int p1])).length) Slot.unset).toArray = ls at hl ⊢
  have hl : lv_has ls 2 [(0, .ref (gA G 0 ↑p0.1 ↑p0.2)), (1, .int p1)] := hl
  have hX := h
  unfold m_X0_rowAt at hX
  refine lv_iload_n hx hb dX0_rowAt_0 rfl (lv_at hl 1 rfl) ?_
  refine lv_if_lt (tgt := 30) hx hb dX0_rowAt_1 (by decide) (fun c1 => ?_) (fun c1 => ?_)
  · have hX := it_t hX c1
    refine lv_iconst (v := (-1 : Int32)) hx hb dX0_rowAt_30 (by decide) ?_
    have hX := Option.some.inj hX
    subst hX
    exact rt_i hx hb hr hlocks hW hS dX0_rowAt_31
  · have hX := it_f hX c1
    refine lv_iload_n hx hb dX0_rowAt_4 rfl (lv_at hl 1 rfl) ?_
    refine lv_aload_n hx hb dX0_rowAt_5 rfl (lv_at hl 0 rfl) ?_
    refine gf_0_12 hx hb htg hown hK hW p0 q270 dX0_rowAt_6 ?_
    refine lv_icmp_ge (tgt := 30) hx hb dX0_rowAt_9 (by decide) (fun c2 => ?_) (fun c2 => ?_)
    · have hX := it_t hX c2
      refine lv_iconst (v := (-1 : Int32)) hx hb dX0_rowAt_30 (by decide) ?_
      have hX := Option.some.inj hX
      subst hX
      exact rt_i hx hb hr hlocks hW hS dX0_rowAt_31
    · have hX := it_f hX c2
      refine lv_iload_n hx hb dX0_rowAt_12 rfl (lv_at hl 1 rfl) ?_
      refine lv_aload_n hx hb dX0_rowAt_13 rfl (lv_at hl 0 rfl) ?_
      refine gf_0_13 hx hb htg hown hK hW p0 q80 dX0_rowAt_14 ?_
      refine an_1 hx hb hK hW p0 dX0_rowAt_17 ?_
      refine lv_icmp_ge (tgt := 30) hx hb dX0_rowAt_18 (by decide) (fun c3 => ?_) (fun c3 => ?_)
      · have hX := it_t hX c3
        refine lv_iconst (v := (-1 : Int32)) hx hb dX0_rowAt_30 (by decide) ?_
        have hX := Option.some.inj hX
        subst hX
        exact rt_i hx hb hr hlocks hW hS dX0_rowAt_31
      · have hX := it_f hX c3
        refine lv_aload_n hx hb dX0_rowAt_21 rfl (lv_at hl 0 rfl) ?_
        refine gf_0_13 hx hb htg hown hK hW p0 q80 dX0_rowAt_22 ?_
        refine lv_iload_n hx hb dX0_rowAt_25 rfl (lv_at hl 1 rfl) ?_
        obtain ⟨g4, hX⟩ := gd_go hX
        refine al_1 hx hb hK hW p0 g4 dX0_rowAt_26 ?_
        refine lv_goto (tgt := 31) hx hb dX0_rowAt_27 (by decide) ?_
        have hX := Option.some.inj hX
        subst hX
        exact rt_i hx hb hr hlocks hW hS dX0_rowAt_31
set_option maxHeartbeats 4000000 in
theorem k_X0_rowAt {p : Program} {l : Launch} {e : Env} {R : Room} {s : State} {m : MethodId} {args : Array Value} {below : List Frame} {meth : Method} {c : Code} {H : Heap} {locs : List Loc} {cells slots : Nat} {Q : State → Prop} {cc : ByteArray} {pc nL idx : Nat} {own : String} {ls : Array Slot} {rest : List Value} {G : Geo} {x y : Mem} {H0 : Heap} {p0 : Fin 10 × Fin 4} {p1 : Int32} {v : Int32} (hx : p.tables.exec = Jvm.exec) (hb : c.code = cc) (hml : c.maxLocals = nL) (hown : s.vm.findClass own = some m.cls) (htg : ∀ w ∈ wsG, w.before args s = true) (hK : Kt G s) (hW : Wh G x y H) (hS : va_S (gF G) H0 H locs) (h : m_X0_rowAt p0 p1 x = some v) (hlk : Cond.methodLink own idx yX0_rowAt ∈ wsG) (hn : ls.size = nL) (hr : (rest.map fun v => v.category).sum ≤ 8) (hR1 : 0 + 1 ≤ R.frames) (hR2 : 8 + (2 + 11) + 0 ≤ R.locals) (hf : cells ≤ R.cells ∧ slots ≤ R.slots) (hdg : decode cc pc = .ok (.invokevirtual idx, 3)) (kk : ∀ (H1 : Heap) (locs1 : List Loc), Wh G x y H1 → va_S (gF G) H0 H1 locs1 → W p l e R s m args below meth c H1 locs1 cells slots Q (F0 m (pc + 3) ls (.int v :: rest))) : W p l e R s m args below meth c H locs cells slots Q (F0 m pc ls (.int p1 :: .ref (gA G 0 ↑p0.1 ↑p0.2) :: rest)) := by
  refine va_calli (va_runV (As := [.int p1]) (rest := rest) ⟨hx, hb, hml, hown, htg⟩ (c_X0_rowAt l G x y p0 p1 v h) (cwV 1 htg (gd_V hlk q600 q601 q47 q602) rfl rfl rfl (by decide +kernel) ⟨hR1, hR2⟩) ⟨fun a U g mk q => ⟨q.1, q.2.1.calling, q.2.2⟩, rc_0 hK hW p0, fun U hU hW9 => ⟨rfl, hK.warm hW9, by rw [hU]; exact hW⟩⟩ rfl rfl hn rfl (lv_room hr) hdg hf) hS (fun _ _ h9 => h9) (fun _ h9 => h9) ?_
  intro r9 u t H1 locs1 ht hvm hw hB hz1 hk1 hS1
  replace hB : Wh G x y t.heap := hB
  rw [ht] at hB
  replace hw : r9 = v := hw
  subst hw
  exact kk H1 locs1 hB hS1
/-! METHOD X0_requestedJob -/
def m_X0_requestedJob (p0 : Fin 10 × Fin 4) (x : Mem) : Option Int32 :=
  if (x 0 ↑p0.1 ↑p0.2 2) = 0 then (bd_ (m_X0_rowAt p0 (0 : Int32) x) fun r3 => some r3) else (some (x 0 ↑p0.1 ↑p0.2 3))
abbrev WS_X0_requestedJob : List Cond := .code yX0_requestedJob cX0_requestedJob 1 (some .int) :: wsG
abbrev RM_X0_requestedJob : Room := { frames := 1, cells := 0, slots := 0, locals := 21 }
set_option maxHeartbeats 4000000 in
set_option maxRecDepth 100000 in
theorem c_X0_requestedJob (l : Launch) (G : Geo) (x y : Mem) (p0 : Fin 10 × Fin 4) (r : Int32) (h : m_X0_requestedJob p0 x = some r) : Met l yX0_requestedJob WS_X0_requestedJob RM_X0_requestedJob (Pw G x y [.ref (gA G 0 ↑p0.1 ↑p0.2)]) (Qi G x y r) 0 0 (gF G) := by
  refine Met.ofW (cc := cX0_requestedJob) (maxL := 1) (ret := (some .int)) (by decide) rfl ?_
  intro p e s m args below meth c s₁ B hml hv
  obtain ⟨rfl, hK, hW⟩ := hv
  have hx := B.exec
  have hb := B.bytes
  have hr := B.returns
  have hts := atoms_spec (ws := WS_X0_requestedJob) B.pre
  have htg : ∀ w ∈ wsG, w.before _ s = true := fun w h => hts w (List.mem_cons_of_mem _ h)
  have hown : s.vm.findClass RX0 = some m.cls := findClass_of_methodNamed B.named
  have hlocks := B.notSynchronized
  have hS : va_S (gF G) s.heap s.heap [] := va_S.rf
  have hl := lv_entry ([.ref (gA G 0 ↑p0.1 ↑p0.2)]) (n := 1) (Nat.le_of_ble_eq_true rfl)
  rw [lg_entry_eq]
  generalize (lg_sl ([.ref (gA G 0 ↑p0.1 ↑p0.2)]) ++ List.replicate (1 - (lg_sl ([.ref (gA G 0 ↑p0.1 ↑p0.2)])).length) Slot.unset).toArray = ls at hl ⊢
  have hl : lv_has ls 1 [(0, .ref (gA G 0 ↑p0.1 ↑p0.2))] := hl
  have hX := h
  unfold m_X0_requestedJob at hX
  refine lv_aload_n hx hb dX0_requestedJob_0 rfl (lv_at hl 0 rfl) ?_
  refine gf_0_2 hx hb htg hown hK hW p0 q78 dX0_requestedJob_1 ?_
  refine lv_if_ne (tgt := 15) hx hb dX0_requestedJob_4 (by decide) (fun c1 => ?_) (fun c1 => ?_)
  · have hX := it_f hX c1
    refine lv_aload_n hx hb dX0_requestedJob_15 rfl (lv_at hl 0 rfl) ?_
    refine gf_0_3 hx hb htg hown hK hW p0 q79 dX0_requestedJob_16 ?_
    have hX := Option.some.inj hX
    subst hX
    exact rt_i hx hb hr hlocks hW hS dX0_requestedJob_19
  · have hX := it_t hX c1
    refine lv_aload_n hx hb dX0_requestedJob_7 rfl (lv_at hl 0 rfl) ?_
    refine lv_iconst (v := (0 : Int32)) hx hb dX0_requestedJob_8 (by decide) ?_
    obtain ⟨r3, h2, hX⟩ := bd_go hX
    refine k_X0_rowAt hx hb hml hown htg hK hW hS h2 q599 hl.1 (Nat.le_of_ble_eq_true rfl) (Nat.le_of_ble_eq_true rfl) (Nat.le_of_ble_eq_true rfl) ⟨Nat.zero_le _, Nat.zero_le _⟩ dX0_requestedJob_9 (fun H locs hW hS => ?_)
    refine lv_goto (tgt := 19) hx hb dX0_requestedJob_12 (by decide) ?_
    have hX := Option.some.inj hX
    subst hX
    exact rt_i hx hb hr hlocks hW hS dX0_requestedJob_19
set_option maxHeartbeats 4000000 in
theorem k_X0_requestedJob {p : Program} {l : Launch} {e : Env} {R : Room} {s : State} {m : MethodId} {args : Array Value} {below : List Frame} {meth : Method} {c : Code} {H : Heap} {locs : List Loc} {cells slots : Nat} {Q : State → Prop} {cc : ByteArray} {pc nL idx : Nat} {own : String} {ls : Array Slot} {rest : List Value} {G : Geo} {x y : Mem} {H0 : Heap} {p0 : Fin 10 × Fin 4} {v : Int32} (hx : p.tables.exec = Jvm.exec) (hb : c.code = cc) (hml : c.maxLocals = nL) (hown : s.vm.findClass own = some m.cls) (htg : ∀ w ∈ wsG, w.before args s = true) (hK : Kt G s) (hW : Wh G x y H) (hS : va_S (gF G) H0 H locs) (h : m_X0_requestedJob p0 x = some v) (hlk : Cond.methodLink own idx yX0_requestedJob ∈ wsG) (hn : ls.size = nL) (hr : (rest.map fun v => v.category).sum ≤ 8) (hR1 : 1 + 1 ≤ R.frames) (hR2 : 8 + (1 + 11) + 21 ≤ R.locals) (hf : cells ≤ R.cells ∧ slots ≤ R.slots) (hdg : decode cc pc = .ok (.invokevirtual idx, 3)) (kk : ∀ (H1 : Heap) (locs1 : List Loc), Wh G x y H1 → va_S (gF G) H0 H1 locs1 → W p l e R s m args below meth c H1 locs1 cells slots Q (F0 m (pc + 3) ls (.int v :: rest))) : W p l e R s m args below meth c H locs cells slots Q (F0 m pc ls (.ref (gA G 0 ↑p0.1 ↑p0.2) :: rest)) := by
  refine va_calli (va_runV (As := []) (rest := rest) ⟨hx, hb, hml, hown, htg⟩ (c_X0_requestedJob l G x y p0 v h) (cwV 0 htg (gd_V hlk q719 q720 q47 q721) rfl rfl rfl (by decide +kernel) ⟨hR1, hR2⟩) ⟨fun a U g mk q => ⟨q.1, q.2.1.calling, q.2.2⟩, rc_0 hK hW p0, fun U hU hW9 => ⟨rfl, hK.warm hW9, by rw [hU]; exact hW⟩⟩ rfl rfl hn rfl (lv_room hr) hdg hf) hS (fun _ _ h9 => h9) (fun _ h9 => h9) ?_
  intro r9 u t H1 locs1 ht hvm hw hB hz1 hk1 hS1
  replace hB : Wh G x y t.heap := hB
  rw [ht] at hB
  replace hw : r9 = v := hw
  subst hw
  exact kk H1 locs1 hB hS1
/-! METHOD X0_requestedPlace -/
def m_X0_requestedPlace (p0 : Fin 10 × Fin 4) (x : Mem) : Option Int32 :=
  if (x 0 ↑p0.1 ↑p0.2 2) = 0 then (some (0 : Int32)) else (bd_ (m_X0_lastHeldPlace p0 x) fun r3 => some (r3 + (1 : Int32)))
abbrev WS_X0_requestedPlace : List Cond := .code yX0_requestedPlace cX0_requestedPlace 1 (some .int) :: wsG
abbrev RM_X0_requestedPlace : Room := { frames := 1, cells := 0, slots := 0, locals := 20 }
set_option maxHeartbeats 4000000 in
set_option maxRecDepth 100000 in
theorem c_X0_requestedPlace (l : Launch) (G : Geo) (x y : Mem) (p0 : Fin 10 × Fin 4) (r : Int32) (h : m_X0_requestedPlace p0 x = some r) : Met l yX0_requestedPlace WS_X0_requestedPlace RM_X0_requestedPlace (Pw G x y [.ref (gA G 0 ↑p0.1 ↑p0.2)]) (Qi G x y r) 0 0 (gF G) := by
  refine Met.ofW (cc := cX0_requestedPlace) (maxL := 1) (ret := (some .int)) (by decide) rfl ?_
  intro p e s m args below meth c s₁ B hml hv
  obtain ⟨rfl, hK, hW⟩ := hv
  have hx := B.exec
  have hb := B.bytes
  have hr := B.returns
  have hts := atoms_spec (ws := WS_X0_requestedPlace) B.pre
  have htg : ∀ w ∈ wsG, w.before _ s = true := fun w h => hts w (List.mem_cons_of_mem _ h)
  have hown : s.vm.findClass RX0 = some m.cls := findClass_of_methodNamed B.named
  have hlocks := B.notSynchronized
  have hS : va_S (gF G) s.heap s.heap [] := va_S.rf
  have hl := lv_entry ([.ref (gA G 0 ↑p0.1 ↑p0.2)]) (n := 1) (Nat.le_of_ble_eq_true rfl)
  rw [lg_entry_eq]
  generalize (lg_sl ([.ref (gA G 0 ↑p0.1 ↑p0.2)]) ++ List.replicate (1 - (lg_sl ([.ref (gA G 0 ↑p0.1 ↑p0.2)])).length) Slot.unset).toArray = ls at hl ⊢
  have hl : lv_has ls 1 [(0, .ref (gA G 0 ↑p0.1 ↑p0.2))] := hl
  have hX := h
  unfold m_X0_requestedPlace at hX
  refine lv_aload_n hx hb dX0_requestedPlace_0 rfl (lv_at hl 0 rfl) ?_
  refine gf_0_2 hx hb htg hown hK hW p0 q78 dX0_requestedPlace_1 ?_
  refine lv_if_ne (tgt := 9) hx hb dX0_requestedPlace_4 (by decide) (fun c1 => ?_) (fun c1 => ?_)
  · have hX := it_f hX c1
    refine lv_aload_n hx hb dX0_requestedPlace_9 rfl (lv_at hl 0 rfl) ?_
    obtain ⟨r3, h2, hX⟩ := bd_go hX
    refine k_X0_lastHeldPlace hx hb hml hown htg hK hW hS h2 q726 hl.1 (Nat.le_of_ble_eq_true rfl) (Nat.le_of_ble_eq_true rfl) (Nat.le_of_ble_eq_true rfl) ⟨Nat.zero_le _, Nat.zero_le _⟩ dX0_requestedPlace_10 (fun H locs hW hS => ?_)
    refine lv_iconst (v := (1 : Int32)) hx hb dX0_requestedPlace_13 (by decide) ?_
    refine lv_iadd hx hb dX0_requestedPlace_14 ?_
    have hX := Option.some.inj hX
    subst hX
    exact rt_i hx hb hr hlocks hW hS dX0_requestedPlace_15
  · have hX := it_t hX c1
    refine lv_iconst (v := (0 : Int32)) hx hb dX0_requestedPlace_7 (by decide) ?_
    have hX := Option.some.inj hX
    subst hX
    exact rt_i hx hb hr hlocks hW hS dX0_requestedPlace_8
set_option maxHeartbeats 4000000 in
theorem k_X0_requestedPlace {p : Program} {l : Launch} {e : Env} {R : Room} {s : State} {m : MethodId} {args : Array Value} {below : List Frame} {meth : Method} {c : Code} {H : Heap} {locs : List Loc} {cells slots : Nat} {Q : State → Prop} {cc : ByteArray} {pc nL idx : Nat} {own : String} {ls : Array Slot} {rest : List Value} {G : Geo} {x y : Mem} {H0 : Heap} {p0 : Fin 10 × Fin 4} {v : Int32} (hx : p.tables.exec = Jvm.exec) (hb : c.code = cc) (hml : c.maxLocals = nL) (hown : s.vm.findClass own = some m.cls) (htg : ∀ w ∈ wsG, w.before args s = true) (hK : Kt G s) (hW : Wh G x y H) (hS : va_S (gF G) H0 H locs) (h : m_X0_requestedPlace p0 x = some v) (hlk : Cond.methodLink own idx yX0_requestedPlace ∈ wsG) (hn : ls.size = nL) (hr : (rest.map fun v => v.category).sum ≤ 8) (hR1 : 1 + 1 ≤ R.frames) (hR2 : 8 + (1 + 11) + 20 ≤ R.locals) (hf : cells ≤ R.cells ∧ slots ≤ R.slots) (hdg : decode cc pc = .ok (.invokevirtual idx, 3)) (kk : ∀ (H1 : Heap) (locs1 : List Loc), Wh G x y H1 → va_S (gF G) H0 H1 locs1 → W p l e R s m args below meth c H1 locs1 cells slots Q (F0 m (pc + 3) ls (.int v :: rest))) : W p l e R s m args below meth c H locs cells slots Q (F0 m pc ls (.ref (gA G 0 ↑p0.1 ↑p0.2) :: rest)) := by
  refine va_calli (va_runV (As := []) (rest := rest) ⟨hx, hb, hml, hown, htg⟩ (c_X0_requestedPlace l G x y p0 v h) (cwV 0 htg (gd_V hlk q723 q724 q47 q725) rfl rfl rfl (by decide +kernel) ⟨hR1, hR2⟩) ⟨fun a U g mk q => ⟨q.1, q.2.1.calling, q.2.2⟩, rc_0 hK hW p0, fun U hU hW9 => ⟨rfl, hK.warm hW9, by rw [hU]; exact hW⟩⟩ rfl rfl hn rfl (lv_room hr) hdg hf) hS (fun _ _ h9 => h9) (fun _ h9 => h9) ?_
  intro r9 u t H1 locs1 ht hvm hw hB hz1 hk1 hS1
  replace hB : Wh G x y t.heap := hB
  rw [ht] at hB
  replace hw : r9 = v := hw
  subst hw
  exact kk H1 locs1 hB hS1
/-! METHOD X0_rest -/
def m_X0_rest (p0 : Fin 10 × Fin 4) (x : Mem) : Option Mem :=
  lt_ (up4 x 0 ↑p0.1 ↑p0.2 2 (0 : Int32)) fun x1 => lt_ (up4 x1 0 ↑p0.1 ↑p0.2 3 (-1 : Int32)) fun x2 => lt_ (up4 x2 0 ↑p0.1 ↑p0.2 4 (0 : Int32)) fun x3 => lt_ (up4 x3 0 ↑p0.1 ↑p0.2 5 (0 : Int32)) fun x4 => lt_ (up4 x4 0 ↑p0.1 ↑p0.2 6 (0 : Int32)) fun x5 => some x5
abbrev WS_X0_rest : List Cond := .code yX0_rest cX0_rest 1 none :: wsG
abbrev RM_X0_rest : Room := { frames := 0, cells := 0, slots := 0, locals := 0 }
set_option maxHeartbeats 4000000 in
set_option maxRecDepth 100000 in
theorem c_X0_rest (l : Launch) (G : Geo) (x y : Mem) (p0 : Fin 10 × Fin 4) (r : Mem) (h : m_X0_rest p0 x = some r) : Met l yX0_rest WS_X0_rest RM_X0_rest (Pw G x y [.ref (gA G 0 ↑p0.1 ↑p0.2)]) (Qv G r y) 0 0 (gF G) := by
  refine Met.ofW (cc := cX0_rest) (maxL := 1) (ret := none) (by decide) rfl ?_
  intro p e s m args below meth c s₁ B hml hv
  obtain ⟨rfl, hK, hW⟩ := hv
  have hx := B.exec
  have hb := B.bytes
  have hr := B.returns
  have hts := atoms_spec (ws := WS_X0_rest) B.pre
  have htg : ∀ w ∈ wsG, w.before _ s = true := fun w h => hts w (List.mem_cons_of_mem _ h)
  have hown : s.vm.findClass RX0 = some m.cls := findClass_of_methodNamed B.named
  have hlocks := B.notSynchronized
  have hS : va_S (gF G) s.heap s.heap [] := va_S.rf
  have hl := lv_entry ([.ref (gA G 0 ↑p0.1 ↑p0.2)]) (n := 1) (Nat.le_of_ble_eq_true rfl)
  rw [lg_entry_eq]
  generalize (lg_sl ([.ref (gA G 0 ↑p0.1 ↑p0.2)]) ++ List.replicate (1 - (lg_sl ([.ref (gA G 0 ↑p0.1 ↑p0.2)])).length) Slot.unset).toArray = ls at hl ⊢
  have hl : lv_has ls 1 [(0, .ref (gA G 0 ↑p0.1 ↑p0.2))] := hl
  have hX := h
  unfold m_X0_rest at hX
  refine lv_aload_n hx hb dX0_rest_0 rfl (lv_at hl 0 rfl) ?_
  refine lv_iconst (v := (0 : Int32)) hx hb dX0_rest_1 (by decide) ?_
  refine pf_0_2 hx hb htg hown hK hW hS p0 q78 dX0_rest_2 (fun H locs hW hS => ?_)
  obtain ⟨x1, e9⟩ : ∃ w : Mem, w = (up4 x 0 ↑p0.1 ↑p0.2 2 (0 : Int32)) := ⟨_, rfl⟩
  rw [← e9] at hW
  have hX := lt_go hX e9
  refine lv_aload_n hx hb dX0_rest_5 rfl (lv_at hl 0 rfl) ?_
  refine lv_iconst (v := (-1 : Int32)) hx hb dX0_rest_6 (by decide) ?_
  refine pf_0_3 hx hb htg hown hK hW hS p0 q79 dX0_rest_7 (fun H locs hW hS => ?_)
  obtain ⟨x2, e9⟩ : ∃ w : Mem, w = (up4 x1 0 ↑p0.1 ↑p0.2 3 (-1 : Int32)) := ⟨_, rfl⟩
  rw [← e9] at hW
  have hX := lt_go hX e9
  refine lv_aload_n hx hb dX0_rest_10 rfl (lv_at hl 0 rfl) ?_
  refine lv_iconst (v := (0 : Int32)) hx hb dX0_rest_11 (by decide) ?_
  refine pf_0_4 hx hb htg hown hK hW hS p0 q262 dX0_rest_12 (fun H locs hW hS => ?_)
  obtain ⟨x3, e9⟩ : ∃ w : Mem, w = (up4 x2 0 ↑p0.1 ↑p0.2 4 (0 : Int32)) := ⟨_, rfl⟩
  rw [← e9] at hW
  have hX := lt_go hX e9
  refine lv_aload_n hx hb dX0_rest_15 rfl (lv_at hl 0 rfl) ?_
  refine lv_iconst (v := (0 : Int32)) hx hb dX0_rest_16 (by decide) ?_
  refine pf_0_5 hx hb htg hown hK hW hS p0 q263 dX0_rest_17 (fun H locs hW hS => ?_)
  obtain ⟨x4, e9⟩ : ∃ w : Mem, w = (up4 x3 0 ↑p0.1 ↑p0.2 5 (0 : Int32)) := ⟨_, rfl⟩
  rw [← e9] at hW
  have hX := lt_go hX e9
  refine lv_aload_n hx hb dX0_rest_20 rfl (lv_at hl 0 rfl) ?_
  refine lv_iconst (v := (0 : Int32)) hx hb dX0_rest_21 (by decide) ?_
  refine pf_0_6 hx hb htg hown hK hW hS p0 q264 dX0_rest_22 (fun H locs hW hS => ?_)
  obtain ⟨x5, e9⟩ : ∃ w : Mem, w = (up4 x4 0 ↑p0.1 ↑p0.2 6 (0 : Int32)) := ⟨_, rfl⟩
  rw [← e9] at hW
  have hX := lt_go hX e9
  have hX := Option.some.inj hX
  subst hX
  exact rt_v hx hb hr hlocks hW hS dX0_rest_25
set_option maxHeartbeats 4000000 in
theorem k_X0_rest {p : Program} {l : Launch} {e : Env} {R : Room} {s : State} {m : MethodId} {args : Array Value} {below : List Frame} {meth : Method} {c : Code} {H : Heap} {locs : List Loc} {cells slots : Nat} {Q : State → Prop} {cc : ByteArray} {pc nL idx : Nat} {own : String} {ls : Array Slot} {rest : List Value} {G : Geo} {x y : Mem} {H0 : Heap} {p0 : Fin 10 × Fin 4} {z : Mem} (hx : p.tables.exec = Jvm.exec) (hb : c.code = cc) (hml : c.maxLocals = nL) (hown : s.vm.findClass own = some m.cls) (htg : ∀ w ∈ wsG, w.before args s = true) (hK : Kt G s) (hW : Wh G x y H) (hS : va_S (gF G) H0 H locs) (h : m_X0_rest p0 x = some z) (hlk : Cond.methodLink own idx yX0_rest ∈ wsG) (hn : ls.size = nL) (hr : (rest.map fun v => v.category).sum ≤ 8) (hR1 : 0 + 1 ≤ R.frames) (hR2 : 8 + (1 + 11) + 0 ≤ R.locals) (hf : cells ≤ R.cells ∧ slots ≤ R.slots) (hdg : decode cc pc = .ok (.invokevirtual idx, 3)) (kk : ∀ (H1 : Heap) (locs1 : List Loc), Wh G z y H1 → va_S (gF G) H0 H1 locs1 → W p l e R s m args below meth c H1 locs1 cells slots Q (F0 m (pc + 3) ls (rest))) : W p l e R s m args below meth c H locs cells slots Q (F0 m pc ls (.ref (gA G 0 ↑p0.1 ↑p0.2) :: rest)) := by
  refine va_callv (va_runV (As := []) (rest := rest) ⟨hx, hb, hml, hown, htg⟩ (c_X0_rest l G x y p0 z h) (cwV 0 htg (gd_V hlk q825 q826 q47 q827) rfl rfl rfl (by decide +kernel) ⟨hR1, hR2⟩) ⟨fun a U g mk q => ⟨q.1, q.2.1.calling, q.2.2⟩, rc_0 hK hW p0, fun U hU hW9 => ⟨rfl, hK.warm hW9, by rw [hU]; exact hW⟩⟩ rfl rfl hn rfl (lv_room hr) hdg hf) hS (fun _ _ h9 => h9) (fun _ h9 => h9) ?_
  intro u t H1 locs1 ht hvm hw hB hz1 hk1 hS1
  replace hB : Wh G z y t.heap := hB
  rw [ht] at hB
  exact kk H1 locs1 hB hS1
/-! METHOD X0_takeFirstOfRow -/
def m_X0_takeFirstOfRow_j63 (p0 : Fin 10 × Fin 4) (x1 : Int32) (x : Mem) : Option (Int32 × Mem) :=
  lt_ (up4 x 0 ↑p0.1 ↑p0.2 12 ((x 0 ↑p0.1 ↑p0.2 12) - (1 : Int32))) fun x12 => some (x1, x12)
def m_X0_takeFirstOfRow_b26 (p0 : Fin 10 × Fin 4) (k26 : Int32 → Int32 → Mem → Option (Int32 × Mem)) (x1 : Int32) (x2 : Int32) (x : Mem) : Option (Int32 × Mem) :=
  if (x 0 ↑p0.1 ↑p0.2 12) ≤ x2 then (m_X0_takeFirstOfRow_j63 p0 x1 x) else (if (30 : Int32) ≤ x2 then (m_X0_takeFirstOfRow_j63 p0 x1 x) else (gd_ x2 30 (gd_ (x2 - (1 : Int32)) 30 (lt_ (up4 x 1 ↑p0.1 ↑p0.2 (x2 - (1 : Int32)).toNatClampNeg (x 1 ↑p0.1 ↑p0.2 x2.toNatClampNeg)) fun x10 => lt_ (x2 + (1 : Int32)) fun x2_11 => k26 x1 x2_11 x10))))
def m_X0_takeFirstOfRow_l26 (p0 : Fin 10 × Fin 4) : Nat → Int32 → Int32 → Mem → Option (Int32 × Mem)
  | 0, _, _, _ => none
  | n + 1, x1, x2, x => m_X0_takeFirstOfRow_b26 p0 (m_X0_takeFirstOfRow_l26 p0 n) x1 x2 x
def m_X0_takeFirstOfRow (p0 : Fin 10 × Fin 4) (x : Mem) : Option (Int32 × Mem) :=
  lt_ (-1 : Int32) fun x1_1 => if (x 0 ↑p0.1 ↑p0.2 12) ≤ 0 then (some (x1_1, x)) else (if (30 : Int32) ≤ 0 then (some (x1_1, x)) else (lt_ (x 1 ↑p0.1 ↑p0.2 (0 : Int32).toNatClampNeg) fun x1_4 => lt_ (1 : Int32) fun x2_5 => m_X0_takeFirstOfRow_l26 p0 FU x1_4 x2_5 x))
abbrev WS_X0_takeFirstOfRow : List Cond := .code yX0_takeFirstOfRow cX0_takeFirstOfRow 3 (some .int) :: wsG
abbrev RM_X0_takeFirstOfRow : Room := { frames := 0, cells := 0, slots := 0, locals := 0 }
set_option maxHeartbeats 4000000 in
set_option maxRecDepth 100000 in
theorem c_X0_takeFirstOfRow (l : Launch) (G : Geo) (x y : Mem) (p0 : Fin 10 × Fin 4) (r : (Int32 × Mem)) (h : m_X0_takeFirstOfRow p0 x = some r) : Met l yX0_takeFirstOfRow WS_X0_takeFirstOfRow RM_X0_takeFirstOfRow (Pw G x y [.ref (gA G 0 ↑p0.1 ↑p0.2)]) (Qi G r.2 y r.1) 0 0 (gF G) := by
  refine Met.ofW (cc := cX0_takeFirstOfRow) (maxL := 3) (ret := (some .int)) (by decide) rfl ?_
  intro p e s m args below meth c s₁ B hml hv
  obtain ⟨rfl, hK, hW⟩ := hv
  have hx := B.exec
  have hb := B.bytes
  have hr := B.returns
  have hts := atoms_spec (ws := WS_X0_takeFirstOfRow) B.pre
  have htg : ∀ w ∈ wsG, w.before _ s = true := fun w h => hts w (List.mem_cons_of_mem _ h)
  have hown : s.vm.findClass RX0 = some m.cls := findClass_of_methodNamed B.named
  have hlocks := B.notSynchronized
  have hS : va_S (gF G) s.heap s.heap [] := va_S.rf
  have hl := lv_entry ([.ref (gA G 0 ↑p0.1 ↑p0.2)]) (n := 3) (Nat.le_of_ble_eq_true rfl)
  rw [lg_entry_eq]
  generalize (lg_sl ([.ref (gA G 0 ↑p0.1 ↑p0.2)]) ++ List.replicate (3 - (lg_sl ([.ref (gA G 0 ↑p0.1 ↑p0.2)])).length) Slot.unset).toArray = ls at hl ⊢
  have hl : lv_has ls 3 [(0, .ref (gA G 0 ↑p0.1 ↑p0.2))] := hl
  have hX := h
  unfold m_X0_takeFirstOfRow at hX
  have J_63 : ∀ (x1 : Int32) (x : Mem) (H : Heap) (locs : List Loc) (ls : Array Slot), Wh G x y H → va_S (gF G) s.heap H locs → lv_has ls 3 [(0, .ref (gA G 0 ↑p0.1 ↑p0.2)), (1, .int x1)] → m_X0_takeFirstOfRow_j63 p0 x1 x = some r → W p l e (headSpec WS_X0_takeFirstOfRow RM_X0_takeFirstOfRow).room s m ([.ref (gA G 0 ↑p0.1 ↑p0.2)] : List Value).toArray below meth c H locs 0 0 (MQ below (Qi G r.2 y r.1) ([.ref (gA G 0 ↑p0.1 ↑p0.2)] : List Value).toArray s 0 0 (gF G)) (F0 m 63 ls []) := by
    intro x1 x H locs ls hW hS hl hX
    unfold m_X0_takeFirstOfRow_j63 at hX
    refine lv_aload_n hx hb dX0_takeFirstOfRow_63 rfl (lv_at hl 0 rfl) ?_
    refine lv_dup hx hb dX0_takeFirstOfRow_64 rfl ?_
    refine gf_0_12 hx hb htg hown hK hW p0 q270 dX0_takeFirstOfRow_65 ?_
    refine lv_iconst (v := (1 : Int32)) hx hb dX0_takeFirstOfRow_68 (by decide) ?_
    refine lv_isub hx hb dX0_takeFirstOfRow_69 ?_
    refine pf_0_12 hx hb htg hown hK hW hS p0 q270 dX0_takeFirstOfRow_70 (fun H locs hW hS => ?_)
    obtain ⟨x12, e9⟩ : ∃ w : Mem, w = (up4 x 0 ↑p0.1 ↑p0.2 12 ((x 0 ↑p0.1 ↑p0.2 12) - (1 : Int32))) := ⟨_, rfl⟩
    rw [← e9] at hW
    have hX := lt_go hX e9
    refine lv_iload_n hx hb dX0_takeFirstOfRow_73 rfl (lv_at hl 1 rfl) ?_
    have hX := Option.some.inj hX
    subst hX
    exact rt_i hx hb hr hlocks hW hS dX0_takeFirstOfRow_74
  have B_26 : ∀ (k26 : Int32 → Int32 → Mem → Option (Int32 × Mem)) (hk26 : ∀ (x1 : Int32) (x2 : Int32) (x : Mem) (H : Heap) (locs : List Loc) (ls : Array Slot), Wh G x y H → va_S (gF G) s.heap H locs → lv_has ls 3 [(0, .ref (gA G 0 ↑p0.1 ↑p0.2)), (1, .int x1), (2, .int x2)] → k26 x1 x2 x = some r → W p l e (headSpec WS_X0_takeFirstOfRow RM_X0_takeFirstOfRow).room s m ([.ref (gA G 0 ↑p0.1 ↑p0.2)] : List Value).toArray below meth c H locs 0 0 (MQ below (Qi G r.2 y r.1) ([.ref (gA G 0 ↑p0.1 ↑p0.2)] : List Value).toArray s 0 0 (gF G)) (F0 m 26 ls [])), ∀ (x1 : Int32) (x2 : Int32) (x : Mem) (H : Heap) (locs : List Loc) (ls : Array Slot), Wh G x y H → va_S (gF G) s.heap H locs → lv_has ls 3 [(0, .ref (gA G 0 ↑p0.1 ↑p0.2)), (1, .int x1), (2, .int x2)] → m_X0_takeFirstOfRow_b26 p0 k26 x1 x2 x = some r → W p l e (headSpec WS_X0_takeFirstOfRow RM_X0_takeFirstOfRow).room s m ([.ref (gA G 0 ↑p0.1 ↑p0.2)] : List Value).toArray below meth c H locs 0 0 (MQ below (Qi G r.2 y r.1) ([.ref (gA G 0 ↑p0.1 ↑p0.2)] : List Value).toArray s 0 0 (gF G)) (F0 m 26 ls []) := by
    intro k26 hk26 x1 x2 x H locs ls hW hS hl hX
    unfold m_X0_takeFirstOfRow_b26 at hX
    refine lv_iload_n hx hb dX0_takeFirstOfRow_26 rfl (lv_at hl 2 rfl) ?_
    refine lv_aload_n hx hb dX0_takeFirstOfRow_27 rfl (lv_at hl 0 rfl) ?_
    refine gf_0_12 hx hb htg hown hK hW p0 q270 dX0_takeFirstOfRow_28 ?_
    refine lv_icmp_ge (tgt := 63) hx hb dX0_takeFirstOfRow_31 (by decide) (fun c6 => ?_) (fun c6 => ?_)
    · have hX := it_t hX c6
      exact J_63 _ _ _ _ _ hW hS (lv_sub hl [0, 1] rfl) hX
    · have hX := it_f hX c6
      refine lv_iload_n hx hb dX0_takeFirstOfRow_34 rfl (lv_at hl 2 rfl) ?_
      refine lv_aload_n hx hb dX0_takeFirstOfRow_35 rfl (lv_at hl 0 rfl) ?_
      refine gf_0_13 hx hb htg hown hK hW p0 q80 dX0_takeFirstOfRow_36 ?_
      refine an_1 hx hb hK hW p0 dX0_takeFirstOfRow_39 ?_
      refine lv_icmp_ge (tgt := 63) hx hb dX0_takeFirstOfRow_40 (by decide) (fun c7 => ?_) (fun c7 => ?_)
      · have hX := it_t hX c7
        exact J_63 _ _ _ _ _ hW hS (lv_sub hl [0, 1] rfl) hX
      · have hX := it_f hX c7
        refine lv_aload_n hx hb dX0_takeFirstOfRow_43 rfl (lv_at hl 0 rfl) ?_
        refine gf_0_13 hx hb htg hown hK hW p0 q80 dX0_takeFirstOfRow_44 ?_
        refine lv_iload_n hx hb dX0_takeFirstOfRow_47 rfl (lv_at hl 2 rfl) ?_
        refine lv_iconst (v := (1 : Int32)) hx hb dX0_takeFirstOfRow_48 (by decide) ?_
        refine lv_isub hx hb dX0_takeFirstOfRow_49 ?_
        refine lv_aload_n hx hb dX0_takeFirstOfRow_50 rfl (lv_at hl 0 rfl) ?_
        refine gf_0_13 hx hb htg hown hK hW p0 q80 dX0_takeFirstOfRow_51 ?_
        refine lv_iload_n hx hb dX0_takeFirstOfRow_54 rfl (lv_at hl 2 rfl) ?_
        obtain ⟨g8, hX⟩ := gd_go hX
        refine al_1 hx hb hK hW p0 g8 dX0_takeFirstOfRow_55 ?_
        obtain ⟨g9, hX⟩ := gd_go hX
        refine as_1 hx hb hK hW hS p0 g9 dX0_takeFirstOfRow_56 (fun H locs hW hS => ?_)
        obtain ⟨x10, e9⟩ : ∃ w : Mem, w = (up4 x 1 ↑p0.1 ↑p0.2 (x2 - (1 : Int32)).toNatClampNeg (x 1 ↑p0.1 ↑p0.2 x2.toNatClampNeg)) := ⟨_, rfl⟩
        rw [← e9] at hW
        have hX := lt_go hX e9
        obtain ⟨x2_11, e9⟩ : ∃ w : Int32, w = (x2 + (1 : Int32)) := ⟨_, rfl⟩
        have hX := lt_go hX e9
        refine lv_iinc (v := x2_11) (lv' := [(2, .int x2_11), (0, .ref (gA G 0 ↑p0.1 ↑p0.2)), (1, .int x1)]) hx hb dX0_takeFirstOfRow_57 hl (k := 2) rfl (by rw [e9]; rfl) (by decide) rfl (fun ls hl => ?_)
        refine lv_goto (tgt := 26) hx hb dX0_takeFirstOfRow_60 (by decide) ?_
        exact hk26 _ _ _ _ _ _ hW hS (lv_sub hl [1, 2, 0] rfl) hX
  have L_26 : ∀ (n : Nat), ∀ (x1 : Int32) (x2 : Int32) (x : Mem) (H : Heap) (locs : List Loc) (ls : Array Slot), Wh G x y H → va_S (gF G) s.heap H locs → lv_has ls 3 [(0, .ref (gA G 0 ↑p0.1 ↑p0.2)), (1, .int x1), (2, .int x2)] → m_X0_takeFirstOfRow_l26 p0 n x1 x2 x = some r → W p l e (headSpec WS_X0_takeFirstOfRow RM_X0_takeFirstOfRow).room s m ([.ref (gA G 0 ↑p0.1 ↑p0.2)] : List Value).toArray below meth c H locs 0 0 (MQ below (Qi G r.2 y r.1) ([.ref (gA G 0 ↑p0.1 ↑p0.2)] : List Value).toArray s 0 0 (gF G)) (F0 m 26 ls []) := by
    intro n
    induction n with
    | zero => intro x1 x2 x H locs ls hW hS hl hX; exact no_go hX
    | succ n ih => intro x1 x2 x H locs ls hW hS hl hX; exact B_26 _ ih _ _ _ _ _ _ hW hS hl hX
  refine lv_iconst (v := (-1 : Int32)) hx hb dX0_takeFirstOfRow_0 (by decide) ?_
  refine lv_topi (fun x1_1 e9 => ?_)
  have hX := lt_go hX e9
  refine lv_istore_n (lv' := [(1, .int x1_1), (0, .ref (gA G 0 ↑p0.1 ↑p0.2))]) hx hb dX0_takeFirstOfRow_1 rfl hl (by decide) rfl (fun ls hl => ?_)
  refine lv_aload_n hx hb dX0_takeFirstOfRow_2 rfl (lv_at hl 1 rfl) ?_
  refine gf_0_12 hx hb htg hown hK hW p0 q270 dX0_takeFirstOfRow_3 ?_
  refine lv_if_le (tgt := 73) hx hb dX0_takeFirstOfRow_6 (by decide) (fun c2 => ?_) (fun c2 => ?_)
  · have hX := it_t hX c2
    refine lv_iload_n hx hb dX0_takeFirstOfRow_73 rfl (lv_at hl 0 rfl) ?_
    have hX := Option.some.inj hX
    subst hX
    exact rt_i hx hb hr hlocks hW hS dX0_takeFirstOfRow_74
  · have hX := it_f hX c2
    refine lv_aload_n hx hb dX0_takeFirstOfRow_9 rfl (lv_at hl 1 rfl) ?_
    refine gf_0_13 hx hb htg hown hK hW p0 q80 dX0_takeFirstOfRow_10 ?_
    refine an_1 hx hb hK hW p0 dX0_takeFirstOfRow_13 ?_
    refine lv_if_le (tgt := 73) hx hb dX0_takeFirstOfRow_14 (by decide) (fun c3 => ?_) (fun c3 => ?_)
    · have hX := it_t hX c3
      refine lv_iload_n hx hb dX0_takeFirstOfRow_73 rfl (lv_at hl 0 rfl) ?_
      have hX := Option.some.inj hX
      subst hX
      exact rt_i hx hb hr hlocks hW hS dX0_takeFirstOfRow_74
    · have hX := it_f hX c3
      refine lv_aload_n hx hb dX0_takeFirstOfRow_17 rfl (lv_at hl 1 rfl) ?_
      refine gf_0_13 hx hb htg hown hK hW p0 q80 dX0_takeFirstOfRow_18 ?_
      refine lv_iconst (v := (0 : Int32)) hx hb dX0_takeFirstOfRow_21 (by decide) ?_
      refine al_1 hx hb hK hW p0 (inR_in (by decide)) dX0_takeFirstOfRow_22 ?_
      refine lv_topi (fun x1_4 e9 => ?_)
      have hX := lt_go hX e9
      refine lv_istore_n (lv' := [(1, .int x1_4), (0, .ref (gA G 0 ↑p0.1 ↑p0.2))]) hx hb dX0_takeFirstOfRow_23 rfl hl (by decide) rfl (fun ls hl => ?_)
      refine lv_iconst (v := (1 : Int32)) hx hb dX0_takeFirstOfRow_24 (by decide) ?_
      refine lv_topi (fun x2_5 e9 => ?_)
      have hX := lt_go hX e9
      refine lv_istore_n (lv' := [(2, .int x2_5), (1, .int x1_4), (0, .ref (gA G 0 ↑p0.1 ↑p0.2))]) hx hb dX0_takeFirstOfRow_25 rfl hl (by decide) rfl (fun ls hl => ?_)
      exact L_26 FU _ _ _ _ _ _ hW hS (lv_sub hl [2, 1, 0] rfl) hX
set_option maxHeartbeats 4000000 in
theorem k_X0_takeFirstOfRow {p : Program} {l : Launch} {e : Env} {R : Room} {s : State} {m : MethodId} {args : Array Value} {below : List Frame} {meth : Method} {c : Code} {H : Heap} {locs : List Loc} {cells slots : Nat} {Q : State → Prop} {cc : ByteArray} {pc nL idx : Nat} {own : String} {ls : Array Slot} {rest : List Value} {G : Geo} {x y : Mem} {H0 : Heap} {p0 : Fin 10 × Fin 4} {v : Int32} {z : Mem} (hx : p.tables.exec = Jvm.exec) (hb : c.code = cc) (hml : c.maxLocals = nL) (hown : s.vm.findClass own = some m.cls) (htg : ∀ w ∈ wsG, w.before args s = true) (hK : Kt G s) (hW : Wh G x y H) (hS : va_S (gF G) H0 H locs) (h : m_X0_takeFirstOfRow p0 x = some (v, z)) (hlk : Cond.methodLink own idx yX0_takeFirstOfRow ∈ wsG) (hn : ls.size = nL) (hr : (rest.map fun v => v.category).sum ≤ 8) (hR1 : 0 + 1 ≤ R.frames) (hR2 : 8 + (3 + 11) + 0 ≤ R.locals) (hf : cells ≤ R.cells ∧ slots ≤ R.slots) (hdg : decode cc pc = .ok (.invokevirtual idx, 3)) (kk : ∀ (H1 : Heap) (locs1 : List Loc), Wh G z y H1 → va_S (gF G) H0 H1 locs1 → W p l e R s m args below meth c H1 locs1 cells slots Q (F0 m (pc + 3) ls (.int v :: rest))) : W p l e R s m args below meth c H locs cells slots Q (F0 m pc ls (.ref (gA G 0 ↑p0.1 ↑p0.2) :: rest)) := by
  refine va_calli (va_runV (As := []) (rest := rest) ⟨hx, hb, hml, hown, htg⟩ (c_X0_takeFirstOfRow l G x y p0 (v, z) h) (cwV 0 htg (gd_V hlk q799 q800 q47 q801) rfl rfl rfl (by decide +kernel) ⟨hR1, hR2⟩) ⟨fun a U g mk q => ⟨q.1, q.2.1.calling, q.2.2⟩, rc_0 hK hW p0, fun U hU hW9 => ⟨rfl, hK.warm hW9, by rw [hU]; exact hW⟩⟩ rfl rfl hn rfl (lv_room hr) hdg hf) hS (fun _ _ h9 => h9) (fun _ h9 => h9) ?_
  intro r9 u t H1 locs1 ht hvm hw hB hz1 hk1 hS1
  replace hB : Wh G z y t.heap := hB
  rw [ht] at hB
  replace hw : r9 = v := hw
  subst hw
  exact kk H1 locs1 hB hS1
