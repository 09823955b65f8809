/-! THE LAW'S CASES. Sim_f: what class and reference answer to a call of f, and that they are in step behind it. -/
abbrev LA (s : State) : Nat → Prop := fun q => s.heap.size ≤ q
theorem LS_step {G : Geo} {s : State} {H H1 : Heap} {locs : List Loc} (h0 : va_S (LA s) s.heap H []) (h : va_S (gF G) H H1 locs) (hG : ∀ q, gF G q → s.heap.size ≤ q) : va_S (LA s) s.heap H1 locs :=
  ⟨Nat.le_trans h0.1 h.1, fun q h1 h2 => (h.2.1 q (Nat.lt_of_lt_of_le h1 h0.1) (fun z => h2 (hG q z))).trans (h0.2.1 q h1 h2), fun l hl => hG _ (h.2.2 l hl)⟩
theorem LS_nil {s : State} {H : Heap} {locs : List Loc} (h : va_S (LA s) s.heap H locs) : va_S (LA s) s.heap H [] := ⟨h.1, h.2.1, fun _ h => absurd h List.not_mem_nil⟩
theorem Zt.law {G : Geo} {s : State} {H : Heap} {locs : List Loc} (h : Zt G s s.heap) (hS : va_S (LA s) s.heap H locs) : Zt G s H := ⟨vx_Zq.kept h.1 (fun a h1 _ => hS.2.1 a h1 (Nat.not_le.mpr h1)), vx_Zq.kept h.2 (fun a h1 _ => hS.2.1 a h1 (Nat.not_le.mpr h1))⟩
theorem lg_self (a : Int64) : lg_cmp a a = 0 := by simp [lg_cmp]
def Sim_setInterlock (Rel : Nat → Mem → Mem → Prop) : Prop := ∀ (i : Nat) (x y : Mem) (p0 p1 p2 : Int32) , (p2 = 0 ∨ p2 = 1) → i < 512 → Rel i x y → ∃ (cd : Nat) (v : Int32) (z : Mem) (b : Int32) (w : Mem), m_X11_setInterlock p0 p1 p2 x = some (cd, v, z) ∧ m_X12_setInterlock p0 p1 p2 y = some (b, w) ∧ (cd = 0 ∨ cd = 1 ∨ cd = 2 ∨ cd = 3) ∧ w 40 0 0 0 = kO_setInterlock cd ∧ (cd = 0 → b = v) ∧ Rel (i + 1) z w
set_option maxHeartbeats 4000000 in
set_option maxRecDepth 100000 in
theorem lc_setInterlock {p : Program} {l : Launch} {e : Env} {s : State} {m : MethodId} {args : Array Value} {below : List Frame} {meth : Method} {c : Code} {Q : State → Prop} (hx : p.tables.exec = Jvm.exec) (hb : c.code = cL_law) (hml : c.maxLocals = 9) (hown : s.vm.findClass RL = some m.cls) (htg : ∀ w ∈ wsG, w.before args s = true) (hst : l.stackTraces = false) {G : Geo} (hXt : Xt s) (hK : Kt G s) (hZ0 : Zt G s s.heap) {b L : Nat} {xs : Nat → Int32} (hX : va_X b L xs s s.heap) (hbl : b < s.heap.size) {oJ oD : Nat} (hw : Ow G oJ oD) (hA0 : ∀ q, gW G oJ oD q → s.heap.size ≤ q) (hGA : ∀ q, s.heap.size ≤ q → q ≠ oJ → q ≠ oD → gF G q) {Rel : Nat → Mem → Mem → Prop} {i : Nat} (hi5 : i < 512) {x5 : Int32} (hi0 : vp_in x5 L) (hi : ∀ k : Nat, k < 7 → vp_in (x5 + Int32.ofNat k) L) {cells slots : Nat} (hc1 : cells + 3 ≤ 603072) (hc2 : slots + 18 ≤ 7202922) (hsim : Sim_setInterlock Rel) (K : ∀ (x y : Mem) (H : Heap) (locs : List Loc) (ls : Array Slot) (vj : Int64) (vd : UInt64), Rel (i + 1) x y → Wh G x y H → Oh G oJ oD vj vd H → va_S (LA s) s.heap H locs → lv_has ls 9 [(0, .ref b), (1, .ref (gA G 14 0 0)), (2, .ref (gA G 40 0 0)), (3, .ref oJ), (4, .ref oD), (5, .int x5)] → W p l e room_1 s m args below meth c H locs (cells + 3) (slots + 18) Q (F0 m 1824 ls [])) : ∀ (x y : Mem) (H : Heap) (locs : List Loc) (ls : Array Slot) (vj : Int64) (vd : UInt64), Rel i x y → Wh G x y H → Oh G oJ oD vj vd H → va_S (LA s) s.heap H locs → lv_has ls 9 [(0, .ref b), (1, .ref (gA G 14 0 0)), (2, .ref (gA G 40 0 0)), (3, .ref oJ), (4, .ref oD), (5, .int x5)] → W p l e room_1 s m args below meth c H locs cells slots Q (F0 m 168 ls []) := by
  intro x y H locs ls vj vd hR hW hO hS hl
  refine va_forget (fun q hq => hS.2.2 q hq) ?_
  replace hS := LS_nil hS
  have hbA : ¬ LA s b := Nat.not_le.mpr hbl
  have hG : ∀ q, gF G q → s.heap.size ≤ q := fun q h => hA0 q (Or.inl h)
  by_cases cb : (xs (x5 + (3 : Int32)).toNatClampNeg) = 0
  · skip
    obtain ⟨cd, v, z, b9, w, h1, h2, hcd, hT, hv, hR2⟩ := hsim i x y ((xs (x5 + (1 : Int32)).toNatClampNeg)) ((xs (x5 + (2 : Int32)).toNatClampNeg)) ((0 : Int32)) (Or.inl rfl) hi5 hR
    refine lv_aload_n hx hb dL_law_168 rfl (lv_at hl 1 rfl) ?_
    refine lv_aload_n hx hb dL_law_169 rfl (lv_at hl 0 rfl) ?_
    refine lv_iload hx hb dL_law_170 (lv_at hl 5 rfl) ?_
    refine lv_iconst (v := (1 : Int32)) hx hb dL_law_172 (by decide) ?_
    refine lv_iadd hx hb dL_law_173 ?_
    refine va_sld hx hb hX hbl hbA hS (hi 1 (by decide)) dL_law_174 ?_
    refine lv_aload_n hx hb dL_law_175 rfl (lv_at hl 0 rfl) ?_
    refine lv_iload hx hb dL_law_176 (lv_at hl 5 rfl) ?_
    refine lv_iconst (v := (2 : Int32)) hx hb dL_law_178 (by decide) ?_
    refine lv_iadd hx hb dL_law_179 ?_
    refine va_sld hx hb hX hbl hbA hS (hi 2 (by decide)) dL_law_180 ?_
    refine lv_aload_n hx hb dL_law_181 rfl (lv_at hl 0 rfl) ?_
    refine lv_iload hx hb dL_law_182 (lv_at hl 5 rfl) ?_
    refine lv_iconst (v := (3 : Int32)) hx hb dL_law_184 (by decide) ?_
    refine lv_iadd hx hb dL_law_185 ?_
    refine va_sld hx hb hX hbl hbA hS (hi 3 (by decide)) dL_law_186 ?_
    refine lv_if_eq (tgt := 194) hx hb dL_law_187 (by decide) (fun _ => ?_) (fun c9 => absurd cb c9)
    refine lv_iconst (v := (0 : Int32)) hx hb dL_law_194 (by decide) ?_
    refine lv_aload_n hx hb dL_law_195 rfl (lv_at hl 3 rfl) ?_
    refine kw_setInterlock hx hb hml hown htg hst hXt (hZ0.law hS) (fun q hq => hGA q (Nat.le_trans hS.1 hq) (fun e9 => absurd hO.lt.1 (by rw [← e9]; omega)) (fun e9 => absurd hO.lt.2 (by rw [← e9]; omega))) hK hW hO hw hS hA0 h1 hcd q179 hl.1 (Nat.le_of_ble_eq_true rfl) (Nat.le_of_ble_eq_true rfl) (Nat.le_of_ble_eq_true rfl) ⟨hc1, hc2⟩ dL_law_196 (fun H1 locs1 hW1 hO1 hS1 hk1 hz1 => ?_)
    refine va_forget (fun q hq => hS1.2.2 q hq) ?_
    replace hS := LS_nil hS1
    replace hW := hW1
    replace hO := hO1
    refine lv_istore (lv' := [(6, .int (kO_setInterlock cd)), (0, .ref b), (1, .ref (gA G 14 0 0)), (2, .ref (gA G 40 0 0)), (3, .ref oJ), (4, .ref oD), (5, .int x5)]) hx hb dL_law_199 hl (by decide) rfl (fun ls hl => ?_)
    refine lv_aload_n hx hb dL_law_201 rfl (lv_at hl 3 rfl) ?_
    refine lv_aload_n hx hb dL_law_202 rfl (lv_at hl 1 rfl) ?_
    refine lv_iload hx hb dL_law_203 (lv_at hl 6 rfl) ?_
    refine lv_iconst (v := (1 : Int32)) hx hb dL_law_205 (by decide) ?_
    refine lv_iadd hx hb dL_law_206 ?_
    refine va_sld hx hb hX hbl hbA hS (hi 1 (by decide)) dL_law_207 ?_
    refine lv_aload_n hx hb dL_law_208 rfl (lv_at hl 1 rfl) ?_
    refine lv_iload hx hb dL_law_209 (lv_at hl 6 rfl) ?_
    refine lv_iconst (v := (2 : Int32)) hx hb dL_law_211 (by decide) ?_
    refine lv_iadd hx hb dL_law_212 ?_
    refine va_sld hx hb hX hbl hbA hS (hi 2 (by decide)) dL_law_213 ?_
    refine lv_aload_n hx hb dL_law_214 rfl (lv_at hl 1 rfl) ?_
    refine lv_iload hx hb dL_law_215 (lv_at hl 6 rfl) ?_
    refine lv_iconst (v := (3 : Int32)) hx hb dL_law_217 (by decide) ?_
    refine lv_iadd hx hb dL_law_218 ?_
    refine va_sld hx hb hX hbl hbA hS (hi 3 (by decide)) dL_law_219 ?_
    refine lv_if_eq (tgt := 227) hx hb dL_law_220 (by decide) (fun _ => ?_) (fun c9 => absurd cb c9)
    refine lv_iconst (v := (0 : Int32)) hx hb dL_law_227 (by decide) ?_
    refine k_X12_setInterlock hx hb hml hown htg hK hW (va_S.rf (A := gF G)) h2 q307 hl.1 (Nat.le_of_ble_eq_true rfl) (Nat.le_of_ble_eq_true rfl) (Nat.le_of_ble_eq_true rfl) ⟨hc1, hc2⟩ dL_law_228 (fun H1 locs1 hW1 hS1 => ?_)
    replace hO := hO.call hw hS1
    replace hS := LS_step hS hS1 hG
    refine va_forget (fun q hq => hS.2.2 q hq) ?_
    replace hS := LS_nil hS
    replace hW := hW1
    refine lv_istore (lv' := [(7, .int b9), (6, .int (kO_setInterlock cd)), (0, .ref b), (1, .ref (gA G 14 0 0)), (2, .ref (gA G 40 0 0)), (3, .ref oJ), (4, .ref oD), (5, .int x5)]) hx hb dL_law_231 hl (by decide) rfl (fun ls hl => ?_)
    refine lv_aload_n hx hb dL_law_233 rfl (lv_at hl 4 rfl) ?_
    refine k_X12_thrown hx hb hml hown htg hK hW (va_S.rf (A := gF G)) (show m_X12_thrown w = some (w 40 0 0 0) from rfl) q380 hl.1 (Nat.le_of_ble_eq_true rfl) (Nat.le_of_ble_eq_true rfl) (Nat.le_of_ble_eq_true rfl) ⟨hc1, hc2⟩ dL_law_234 (fun H1 locs1 hW1 hS1 => ?_)
    replace hO := hO.call hw hS1
    replace hS := LS_step hS hS1 hG
    refine va_forget (fun q hq => hS.2.2 q hq) ?_
    replace hS := LS_nil hS
    replace hW := hW1
    refine lv_iload hx hb dL_law_237 (lv_at hl 1 rfl) ?_
    refine lv_icmp_eq (tgt := 244) hx hb dL_law_239 (by decide) (fun _ => ?_) (fun c9 => absurd hT c9)
    refine lv_iload hx hb dL_law_244 (lv_at hl 1 rfl) ?_
    refine lv_if_ne (tgt := 268) hx hb dL_law_246 (by decide) (fun _ => ?_) (fun c9 => ?_)
    · refine lv_goto (tgt := 1824) hx hb dL_law_268 (by decide) ?_
      exact K z w _ _ ls _ _ hR2 hW hO hS (lv_sub hl [2, 3, 4, 5, 6, 7] rfl)
    have h09 : cd = 0 := by
      rcases hcd with rfl | rfl | rfl | rfl
      · rfl
      · exact absurd c9 (by decide)
      · exact absurd c9 (by decide)
      · exact absurd c9 (by decide)
    subst h09
    replace hv := hv rfl
    subst hv
    rw [if_pos rfl] at hO
    refine lv_aload_n hx hb dL_law_249 rfl (lv_at hl 5 rfl) ?_
    refine lv_iconst (v := (0 : Int32)) hx hb dL_law_250 (by decide) ?_
    refine ol_J hx hb hK hO dL_law_251 ?_
    refine lv_iload hx hb dL_law_252 (lv_at hl 0 rfl) ?_
    refine lv_if_eq (tgt := 261) hx hb dL_law_254 (by decide) (fun c8 => ?_) (fun c8 => ?_)
    · rw [if_pos c8]
      refine lv_lconst (v := (0 : Int64)) hx hb dL_law_261 (by decide) ?_
      refine W.lcmp hx hb dL_law_262 ?_
      rw [lg_self]
      refine lv_if_eq (tgt := 268) hx hb dL_law_263 (by decide) (fun _ => ?_) (fun c7 => absurd rfl c7)
      refine lv_goto (tgt := 1824) hx hb dL_law_268 (by decide) ?_
      exact K z w _ _ ls _ _ hR2 hW hO hS (lv_sub hl [2, 3, 4, 5, 6, 7] rfl)
    · rw [if_neg c8]
      refine lv_lconst (v := (1 : Int64)) hx hb dL_law_257 (by decide) ?_
      refine lv_goto (tgt := 262) hx hb dL_law_258 (by decide) ?_
      refine W.lcmp hx hb dL_law_262 ?_
      rw [lg_self]
      refine lv_if_eq (tgt := 268) hx hb dL_law_263 (by decide) (fun _ => ?_) (fun c7 => absurd rfl c7)
      refine lv_goto (tgt := 1824) hx hb dL_law_268 (by decide) ?_
      exact K z w _ _ ls _ _ hR2 hW hO hS (lv_sub hl [2, 3, 4, 5, 6, 7] rfl)
  · skip
    obtain ⟨cd, v, z, b9, w, h1, h2, hcd, hT, hv, hR2⟩ := hsim i x y ((xs (x5 + (1 : Int32)).toNatClampNeg)) ((xs (x5 + (2 : Int32)).toNatClampNeg)) ((1 : Int32)) (Or.inr rfl) hi5 hR
    refine lv_aload_n hx hb dL_law_168 rfl (lv_at hl 1 rfl) ?_
    refine lv_aload_n hx hb dL_law_169 rfl (lv_at hl 0 rfl) ?_
    refine lv_iload hx hb dL_law_170 (lv_at hl 5 rfl) ?_
    refine lv_iconst (v := (1 : Int32)) hx hb dL_law_172 (by decide) ?_
    refine lv_iadd hx hb dL_law_173 ?_
    refine va_sld hx hb hX hbl hbA hS (hi 1 (by decide)) dL_law_174 ?_
    refine lv_aload_n hx hb dL_law_175 rfl (lv_at hl 0 rfl) ?_
    refine lv_iload hx hb dL_law_176 (lv_at hl 5 rfl) ?_
    refine lv_iconst (v := (2 : Int32)) hx hb dL_law_178 (by decide) ?_
    refine lv_iadd hx hb dL_law_179 ?_
    refine va_sld hx hb hX hbl hbA hS (hi 2 (by decide)) dL_law_180 ?_
    refine lv_aload_n hx hb dL_law_181 rfl (lv_at hl 0 rfl) ?_
    refine lv_iload hx hb dL_law_182 (lv_at hl 5 rfl) ?_
    refine lv_iconst (v := (3 : Int32)) hx hb dL_law_184 (by decide) ?_
    refine lv_iadd hx hb dL_law_185 ?_
    refine va_sld hx hb hX hbl hbA hS (hi 3 (by decide)) dL_law_186 ?_
    refine lv_if_eq (tgt := 194) hx hb dL_law_187 (by decide) (fun c9 => absurd c9 cb) (fun _ => ?_)
    refine lv_iconst (v := (1 : Int32)) hx hb dL_law_190 (by decide) ?_
    refine lv_goto (tgt := 195) hx hb dL_law_191 (by decide) ?_
    refine lv_aload_n hx hb dL_law_195 rfl (lv_at hl 3 rfl) ?_
    refine kw_setInterlock hx hb hml hown htg hst hXt (hZ0.law hS) (fun q hq => hGA q (Nat.le_trans hS.1 hq) (fun e9 => absurd hO.lt.1 (by rw [← e9]; omega)) (fun e9 => absurd hO.lt.2 (by rw [← e9]; omega))) hK hW hO hw hS hA0 h1 hcd q179 hl.1 (Nat.le_of_ble_eq_true rfl) (Nat.le_of_ble_eq_true rfl) (Nat.le_of_ble_eq_true rfl) ⟨hc1, hc2⟩ dL_law_196 (fun H1 locs1 hW1 hO1 hS1 hk1 hz1 => ?_)
    refine va_forget (fun q hq => hS1.2.2 q hq) ?_
    replace hS := LS_nil hS1
    replace hW := hW1
    replace hO := hO1
    refine lv_istore (lv' := [(6, .int (kO_setInterlock cd)), (0, .ref b), (1, .ref (gA G 14 0 0)), (2, .ref (gA G 40 0 0)), (3, .ref oJ), (4, .ref oD), (5, .int x5)]) hx hb dL_law_199 hl (by decide) rfl (fun ls hl => ?_)
    refine lv_aload_n hx hb dL_law_201 rfl (lv_at hl 3 rfl) ?_
    refine lv_aload_n hx hb dL_law_202 rfl (lv_at hl 1 rfl) ?_
    refine lv_iload hx hb dL_law_203 (lv_at hl 6 rfl) ?_
    refine lv_iconst (v := (1 : Int32)) hx hb dL_law_205 (by decide) ?_
    refine lv_iadd hx hb dL_law_206 ?_
    refine va_sld hx hb hX hbl hbA hS (hi 1 (by decide)) dL_law_207 ?_
    refine lv_aload_n hx hb dL_law_208 rfl (lv_at hl 1 rfl) ?_
    refine lv_iload hx hb dL_law_209 (lv_at hl 6 rfl) ?_
    refine lv_iconst (v := (2 : Int32)) hx hb dL_law_211 (by decide) ?_
    refine lv_iadd hx hb dL_law_212 ?_
    refine va_sld hx hb hX hbl hbA hS (hi 2 (by decide)) dL_law_213 ?_
    refine lv_aload_n hx hb dL_law_214 rfl (lv_at hl 1 rfl) ?_
    refine lv_iload hx hb dL_law_215 (lv_at hl 6 rfl) ?_
    refine lv_iconst (v := (3 : Int32)) hx hb dL_law_217 (by decide) ?_
    refine lv_iadd hx hb dL_law_218 ?_
    refine va_sld hx hb hX hbl hbA hS (hi 3 (by decide)) dL_law_219 ?_
    refine lv_if_eq (tgt := 227) hx hb dL_law_220 (by decide) (fun c9 => absurd c9 cb) (fun _ => ?_)
    refine lv_iconst (v := (1 : Int32)) hx hb dL_law_223 (by decide) ?_
    refine lv_goto (tgt := 228) hx hb dL_law_224 (by decide) ?_
    refine k_X12_setInterlock hx hb hml hown htg hK hW (va_S.rf (A := gF G)) h2 q307 hl.1 (Nat.le_of_ble_eq_true rfl) (Nat.le_of_ble_eq_true rfl) (Nat.le_of_ble_eq_true rfl) ⟨hc1, hc2⟩ dL_law_228 (fun H1 locs1 hW1 hS1 => ?_)
    replace hO := hO.call hw hS1
    replace hS := LS_step hS hS1 hG
    refine va_forget (fun q hq => hS.2.2 q hq) ?_
    replace hS := LS_nil hS
    replace hW := hW1
    refine lv_istore (lv' := [(7, .int b9), (6, .int (kO_setInterlock cd)), (0, .ref b), (1, .ref (gA G 14 0 0)), (2, .ref (gA G 40 0 0)), (3, .ref oJ), (4, .ref oD), (5, .int x5)]) hx hb dL_law_231 hl (by decide) rfl (fun ls hl => ?_)
    refine lv_aload_n hx hb dL_law_233 rfl (lv_at hl 4 rfl) ?_
    refine k_X12_thrown hx hb hml hown htg hK hW (va_S.rf (A := gF G)) (show m_X12_thrown w = some (w 40 0 0 0) from rfl) q380 hl.1 (Nat.le_of_ble_eq_true rfl) (Nat.le_of_ble_eq_true rfl) (Nat.le_of_ble_eq_true rfl) ⟨hc1, hc2⟩ dL_law_234 (fun H1 locs1 hW1 hS1 => ?_)
    replace hO := hO.call hw hS1
    replace hS := LS_step hS hS1 hG
    refine va_forget (fun q hq => hS.2.2 q hq) ?_
    replace hS := LS_nil hS
    replace hW := hW1
    refine lv_iload hx hb dL_law_237 (lv_at hl 1 rfl) ?_
    refine lv_icmp_eq (tgt := 244) hx hb dL_law_239 (by decide) (fun _ => ?_) (fun c9 => absurd hT c9)
    refine lv_iload hx hb dL_law_244 (lv_at hl 1 rfl) ?_
    refine lv_if_ne (tgt := 268) hx hb dL_law_246 (by decide) (fun _ => ?_) (fun c9 => ?_)
    · refine lv_goto (tgt := 1824) hx hb dL_law_268 (by decide) ?_
      exact K z w _ _ ls _ _ hR2 hW hO hS (lv_sub hl [2, 3, 4, 5, 6, 7] rfl)
    have h09 : cd = 0 := by
      rcases hcd with rfl | rfl | rfl | rfl
      · rfl
      · exact absurd c9 (by decide)
      · exact absurd c9 (by decide)
      · exact absurd c9 (by decide)
    subst h09
    replace hv := hv rfl
    subst hv
    rw [if_pos rfl] at hO
    refine lv_aload_n hx hb dL_law_249 rfl (lv_at hl 5 rfl) ?_
    refine lv_iconst (v := (0 : Int32)) hx hb dL_law_250 (by decide) ?_
    refine ol_J hx hb hK hO dL_law_251 ?_
    refine lv_iload hx hb dL_law_252 (lv_at hl 0 rfl) ?_
    refine lv_if_eq (tgt := 261) hx hb dL_law_254 (by decide) (fun c8 => ?_) (fun c8 => ?_)
    · rw [if_pos c8]
      refine lv_lconst (v := (0 : Int64)) hx hb dL_law_261 (by decide) ?_
      refine W.lcmp hx hb dL_law_262 ?_
      rw [lg_self]
      refine lv_if_eq (tgt := 268) hx hb dL_law_263 (by decide) (fun _ => ?_) (fun c7 => absurd rfl c7)
      refine lv_goto (tgt := 1824) hx hb dL_law_268 (by decide) ?_
      exact K z w _ _ ls _ _ hR2 hW hO hS (lv_sub hl [2, 3, 4, 5, 6, 7] rfl)
    · rw [if_neg c8]
      refine lv_lconst (v := (1 : Int64)) hx hb dL_law_257 (by decide) ?_
      refine lv_goto (tgt := 262) hx hb dL_law_258 (by decide) ?_
      refine W.lcmp hx hb dL_law_262 ?_
      rw [lg_self]
      refine lv_if_eq (tgt := 268) hx hb dL_law_263 (by decide) (fun _ => ?_) (fun c7 => absurd rfl c7)
      refine lv_goto (tgt := 1824) hx hb dL_law_268 (by decide) ?_
      exact K z w _ _ ls _ _ hR2 hW hO hS (lv_sub hl [2, 3, 4, 5, 6, 7] rfl)
def Sim_setReach (Rel : Nat → Mem → Mem → Prop) : Prop := ∀ (i : Nat) (x y : Mem) (p0 p1 : Int32) , i < 512 → Rel i x y → ∃ (cd : Nat) (v : Int32) (z : Mem) (b : Int32) (w : Mem), m_X11_setReach p0 p1 x = some (cd, v, z) ∧ m_X12_setReach p0 p1 y = some (b, w) ∧ (cd = 0 ∨ cd = 1 ∨ cd = 2) ∧ w 40 0 0 0 = kO_setReach cd ∧ (cd = 0 → b = v) ∧ Rel (i + 1) z w
set_option maxHeartbeats 4000000 in
set_option maxRecDepth 100000 in
theorem lc_setReach {p : Program} {l : Launch} {e : Env} {s : State} {m : MethodId} {args : Array Value} {below : List Frame} {meth : Method} {c : Code} {Q : State → Prop} (hx : p.tables.exec = Jvm.exec) (hb : c.code = cL_law) (hml : c.maxLocals = 9) (hown : s.vm.findClass RL = some m.cls) (htg : ∀ w ∈ wsG, w.before args s = true) (hst : l.stackTraces = false) {G : Geo} (hXt : Xt s) (hK : Kt G s) (hZ0 : Zt G s s.heap) {b L : Nat} {xs : Nat → Int32} (hX : va_X b L xs s s.heap) (hbl : b < s.heap.size) {oJ oD : Nat} (hw : Ow G oJ oD) (hA0 : ∀ q, gW G oJ oD q → s.heap.size ≤ q) (hGA : ∀ q, s.heap.size ≤ q → q ≠ oJ → q ≠ oD → gF G q) {Rel : Nat → Mem → Mem → Prop} {i : Nat} (hi5 : i < 512) {x5 : Int32} (hi0 : vp_in x5 L) (hi : ∀ k : Nat, k < 7 → vp_in (x5 + Int32.ofNat k) L) {cells slots : Nat} (hc1 : cells + 3 ≤ 603072) (hc2 : slots + 18 ≤ 7202922) (hsim : Sim_setReach Rel) (K : ∀ (x y : Mem) (H : Heap) (locs : List Loc) (ls : Array Slot) (vj : Int64) (vd : UInt64), Rel (i + 1) x y → Wh G x y H → Oh G oJ oD vj vd H → va_S (LA s) s.heap H locs → lv_has ls 9 [(0, .ref b), (1, .ref (gA G 14 0 0)), (2, .ref (gA G 40 0 0)), (3, .ref oJ), (4, .ref oD), (5, .int x5)] → W p l e room_1 s m args below meth c H locs (cells + 3) (slots + 18) Q (F0 m 1824 ls [])) : ∀ (x y : Mem) (H : Heap) (locs : List Loc) (ls : Array Slot) (vj : Int64) (vd : UInt64), Rel i x y → Wh G x y H → Oh G oJ oD vj vd H → va_S (LA s) s.heap H locs → lv_has ls 9 [(0, .ref b), (1, .ref (gA G 14 0 0)), (2, .ref (gA G 40 0 0)), (3, .ref oJ), (4, .ref oD), (5, .int x5)] → W p l e room_1 s m args below meth c H locs cells slots Q (F0 m 271 ls []) := by
  intro x y H locs ls vj vd hR hW hO hS hl
  refine va_forget (fun q hq => hS.2.2 q hq) ?_
  replace hS := LS_nil hS
  have hbA : ¬ LA s b := Nat.not_le.mpr hbl
  have hG : ∀ q, gF G q → s.heap.size ≤ q := fun q h => hA0 q (Or.inl h)
  obtain ⟨cd, v, z, b9, w, h1, h2, hcd, hT, hv, hR2⟩ := hsim i x y ((xs (x5 + (1 : Int32)).toNatClampNeg)) ((xs (x5 + (2 : Int32)).toNatClampNeg)) hi5 hR
  refine lv_aload_n hx hb dL_law_271 rfl (lv_at hl 1 rfl) ?_
  refine lv_aload_n hx hb dL_law_272 rfl (lv_at hl 0 rfl) ?_
  refine lv_iload hx hb dL_law_273 (lv_at hl 5 rfl) ?_
  refine lv_iconst (v := (1 : Int32)) hx hb dL_law_275 (by decide) ?_
  refine lv_iadd hx hb dL_law_276 ?_
  refine va_sld hx hb hX hbl hbA hS (hi 1 (by decide)) dL_law_277 ?_
  refine lv_aload_n hx hb dL_law_278 rfl (lv_at hl 0 rfl) ?_
  refine lv_iload hx hb dL_law_279 (lv_at hl 5 rfl) ?_
  refine lv_iconst (v := (2 : Int32)) hx hb dL_law_281 (by decide) ?_
  refine lv_iadd hx hb dL_law_282 ?_
  refine va_sld hx hb hX hbl hbA hS (hi 2 (by decide)) dL_law_283 ?_
  refine lv_aload_n hx hb dL_law_284 rfl (lv_at hl 3 rfl) ?_
  refine kw_setReach hx hb hml hown htg hst hXt (hZ0.law hS) (fun q hq => hGA q (Nat.le_trans hS.1 hq) (fun e9 => absurd hO.lt.1 (by rw [← e9]; omega)) (fun e9 => absurd hO.lt.2 (by rw [← e9]; omega))) hK hW hO hw hS hA0 h1 hcd q384 hl.1 (Nat.le_of_ble_eq_true rfl) (Nat.le_of_ble_eq_true rfl) (Nat.le_of_ble_eq_true rfl) ⟨hc1, hc2⟩ dL_law_285 (fun H1 locs1 hW1 hO1 hS1 hk1 hz1 => ?_)
  refine va_forget (fun q hq => hS1.2.2 q hq) ?_
  replace hS := LS_nil hS1
  replace hW := hW1
  replace hO := hO1
  refine lv_istore (lv' := [(6, .int (kO_setReach cd)), (0, .ref b), (1, .ref (gA G 14 0 0)), (2, .ref (gA G 40 0 0)), (3, .ref oJ), (4, .ref oD), (5, .int x5)]) hx hb dL_law_288 hl (by decide) rfl (fun ls hl => ?_)
  refine lv_aload_n hx hb dL_law_290 rfl (lv_at hl 3 rfl) ?_
  refine lv_aload_n hx hb dL_law_291 rfl (lv_at hl 1 rfl) ?_
  refine lv_iload hx hb dL_law_292 (lv_at hl 6 rfl) ?_
  refine lv_iconst (v := (1 : Int32)) hx hb dL_law_294 (by decide) ?_
  refine lv_iadd hx hb dL_law_295 ?_
  refine va_sld hx hb hX hbl hbA hS (hi 1 (by decide)) dL_law_296 ?_
  refine lv_aload_n hx hb dL_law_297 rfl (lv_at hl 1 rfl) ?_
  refine lv_iload hx hb dL_law_298 (lv_at hl 6 rfl) ?_
  refine lv_iconst (v := (2 : Int32)) hx hb dL_law_300 (by decide) ?_
  refine lv_iadd hx hb dL_law_301 ?_
  refine va_sld hx hb hX hbl hbA hS (hi 2 (by decide)) dL_law_302 ?_
  refine k_X12_setReach hx hb hml hown htg hK hW (va_S.rf (A := gF G)) h2 q400 hl.1 (Nat.le_of_ble_eq_true rfl) (Nat.le_of_ble_eq_true rfl) (Nat.le_of_ble_eq_true rfl) ⟨hc1, hc2⟩ dL_law_303 (fun H1 locs1 hW1 hS1 => ?_)
  replace hO := hO.call hw hS1
  replace hS := LS_step hS hS1 hG
  refine va_forget (fun q hq => hS.2.2 q hq) ?_
  replace hS := LS_nil hS
  replace hW := hW1
  refine lv_istore (lv' := [(7, .int b9), (6, .int (kO_setReach cd)), (0, .ref b), (1, .ref (gA G 14 0 0)), (2, .ref (gA G 40 0 0)), (3, .ref oJ), (4, .ref oD), (5, .int x5)]) hx hb dL_law_306 hl (by decide) rfl (fun ls hl => ?_)
  refine lv_aload_n hx hb dL_law_308 rfl (lv_at hl 4 rfl) ?_
  refine k_X12_thrown hx hb hml hown htg hK hW (va_S.rf (A := gF G)) (show m_X12_thrown w = some (w 40 0 0 0) from rfl) q380 hl.1 (Nat.le_of_ble_eq_true rfl) (Nat.le_of_ble_eq_true rfl) (Nat.le_of_ble_eq_true rfl) ⟨hc1, hc2⟩ dL_law_309 (fun H1 locs1 hW1 hS1 => ?_)
  replace hO := hO.call hw hS1
  replace hS := LS_step hS hS1 hG
  refine va_forget (fun q hq => hS.2.2 q hq) ?_
  replace hS := LS_nil hS
  replace hW := hW1
  refine lv_iload hx hb dL_law_312 (lv_at hl 1 rfl) ?_
  refine lv_icmp_eq (tgt := 319) hx hb dL_law_314 (by decide) (fun _ => ?_) (fun c9 => absurd hT c9)
  refine lv_iload hx hb dL_law_319 (lv_at hl 1 rfl) ?_
  refine lv_if_ne (tgt := 336) hx hb dL_law_321 (by decide) (fun _ => ?_) (fun c9 => ?_)
  · refine lv_goto (tgt := 1824) hx hb dL_law_336 (by decide) ?_
    exact K z w _ _ ls _ _ hR2 hW hO hS (lv_sub hl [2, 3, 4, 5, 6, 7] rfl)
  have h09 : cd = 0 := by
    rcases hcd with rfl | rfl | rfl
    · rfl
    · exact absurd c9 (by decide)
    · exact absurd c9 (by decide)
  subst h09
  replace hv := hv rfl
  subst hv
  rw [if_pos rfl] at hO
  refine lv_aload_n hx hb dL_law_324 rfl (lv_at hl 5 rfl) ?_
  refine lv_iconst (v := (0 : Int32)) hx hb dL_law_325 (by decide) ?_
  refine ol_J hx hb hK hO dL_law_326 ?_
  refine lv_iload hx hb dL_law_327 (lv_at hl 0 rfl) ?_
  refine lv_i2l (v := b9.toInt64) hx hb dL_law_329 rfl ?_
  refine W.lcmp hx hb dL_law_330 ?_
  rw [lg_self]
  refine lv_if_eq (tgt := 336) hx hb dL_law_331 (by decide) (fun _ => ?_) (fun c7 => absurd rfl c7)
  refine lv_goto (tgt := 1824) hx hb dL_law_336 (by decide) ?_
  exact K z w _ _ ls _ _ hR2 hW hO hS (lv_sub hl [2, 3, 4, 5, 6, 7] rfl)
def Sim_setCapacity (Rel : Nat → Mem → Mem → Prop) : Prop := ∀ (i : Nat) (x y : Mem) (p0 p1 : Int32) , i < 512 → Rel i x y → ∃ (cd : Nat) (v : Int32) (z : Mem) (b : Int32) (w : Mem), m_X11_setCapacity p0 p1 x = some (cd, v, z) ∧ m_X12_setCapacity p0 p1 y = some (b, w) ∧ (cd = 0 ∨ cd = 1 ∨ cd = 2 ∨ cd = 3) ∧ w 40 0 0 0 = kO_setCapacity cd ∧ (cd = 0 → b = v) ∧ Rel (i + 1) z w
set_option maxHeartbeats 4000000 in
set_option maxRecDepth 100000 in
theorem lc_setCapacity {p : Program} {l : Launch} {e : Env} {s : State} {m : MethodId} {args : Array Value} {below : List Frame} {meth : Method} {c : Code} {Q : State → Prop} (hx : p.tables.exec = Jvm.exec) (hb : c.code = cL_law) (hml : c.maxLocals = 9) (hown : s.vm.findClass RL = some m.cls) (htg : ∀ w ∈ wsG, w.before args s = true) (hst : l.stackTraces = false) {G : Geo} (hXt : Xt s) (hK : Kt G s) (hZ0 : Zt G s s.heap) {b L : Nat} {xs : Nat → Int32} (hX : va_X b L xs s s.heap) (hbl : b < s.heap.size) {oJ oD : Nat} (hw : Ow G oJ oD) (hA0 : ∀ q, gW G oJ oD q → s.heap.size ≤ q) (hGA : ∀ q, s.heap.size ≤ q → q ≠ oJ → q ≠ oD → gF G q) {Rel : Nat → Mem → Mem → Prop} {i : Nat} (hi5 : i < 512) {x5 : Int32} (hi0 : vp_in x5 L) (hi : ∀ k : Nat, k < 7 → vp_in (x5 + Int32.ofNat k) L) {cells slots : Nat} (hc1 : cells + 3 ≤ 603072) (hc2 : slots + 18 ≤ 7202922) (hsim : Sim_setCapacity Rel) (K : ∀ (x y : Mem) (H : Heap) (locs : List Loc) (ls : Array Slot) (vj : Int64) (vd : UInt64), Rel (i + 1) x y → Wh G x y H → Oh G oJ oD vj vd H → va_S (LA s) s.heap H locs → lv_has ls 9 [(0, .ref b), (1, .ref (gA G 14 0 0)), (2, .ref (gA G 40 0 0)), (3, .ref oJ), (4, .ref oD), (5, .int x5)] → W p l e room_1 s m args below meth c H locs (cells + 3) (slots + 18) Q (F0 m 1824 ls [])) : ∀ (x y : Mem) (H : Heap) (locs : List Loc) (ls : Array Slot) (vj : Int64) (vd : UInt64), Rel i x y → Wh G x y H → Oh G oJ oD vj vd H → va_S (LA s) s.heap H locs → lv_has ls 9 [(0, .ref b), (1, .ref (gA G 14 0 0)), (2, .ref (gA G 40 0 0)), (3, .ref oJ), (4, .ref oD), (5, .int x5)] → W p l e room_1 s m args below meth c H locs cells slots Q (F0 m 339 ls []) := by
  intro x y H locs ls vj vd hR hW hO hS hl
  refine va_forget (fun q hq => hS.2.2 q hq) ?_
  replace hS := LS_nil hS
  have hbA : ¬ LA s b := Nat.not_le.mpr hbl
  have hG : ∀ q, gF G q → s.heap.size ≤ q := fun q h => hA0 q (Or.inl h)
  obtain ⟨cd, v, z, b9, w, h1, h2, hcd, hT, hv, hR2⟩ := hsim i x y ((xs (x5 + (1 : Int32)).toNatClampNeg)) ((xs (x5 + (2 : Int32)).toNatClampNeg)) hi5 hR
  refine lv_aload_n hx hb dL_law_339 rfl (lv_at hl 1 rfl) ?_
  refine lv_aload_n hx hb dL_law_340 rfl (lv_at hl 0 rfl) ?_
  refine lv_iload hx hb dL_law_341 (lv_at hl 5 rfl) ?_
  refine lv_iconst (v := (1 : Int32)) hx hb dL_law_343 (by decide) ?_
  refine lv_iadd hx hb dL_law_344 ?_
  refine va_sld hx hb hX hbl hbA hS (hi 1 (by decide)) dL_law_345 ?_
  refine lv_aload_n hx hb dL_law_346 rfl (lv_at hl 0 rfl) ?_
  refine lv_iload hx hb dL_law_347 (lv_at hl 5 rfl) ?_
  refine lv_iconst (v := (2 : Int32)) hx hb dL_law_349 (by decide) ?_
  refine lv_iadd hx hb dL_law_350 ?_
  refine va_sld hx hb hX hbl hbA hS (hi 2 (by decide)) dL_law_351 ?_
  refine lv_aload_n hx hb dL_law_352 rfl (lv_at hl 3 rfl) ?_
  refine kw_setCapacity hx hb hml hown htg hst hXt (hZ0.law hS) (fun q hq => hGA q (Nat.le_trans hS.1 hq) (fun e9 => absurd hO.lt.1 (by rw [← e9]; omega)) (fun e9 => absurd hO.lt.2 (by rw [← e9]; omega))) hK hW hO hw hS hA0 h1 hcd q411 hl.1 (Nat.le_of_ble_eq_true rfl) (Nat.le_of_ble_eq_true rfl) (Nat.le_of_ble_eq_true rfl) ⟨hc1, hc2⟩ dL_law_353 (fun H1 locs1 hW1 hO1 hS1 hk1 hz1 => ?_)
  refine va_forget (fun q hq => hS1.2.2 q hq) ?_
  replace hS := LS_nil hS1
  replace hW := hW1
  replace hO := hO1
  refine lv_istore (lv' := [(6, .int (kO_setCapacity cd)), (0, .ref b), (1, .ref (gA G 14 0 0)), (2, .ref (gA G 40 0 0)), (3, .ref oJ), (4, .ref oD), (5, .int x5)]) hx hb dL_law_356 hl (by decide) rfl (fun ls hl => ?_)
  refine lv_aload_n hx hb dL_law_358 rfl (lv_at hl 3 rfl) ?_
  refine lv_aload_n hx hb dL_law_359 rfl (lv_at hl 1 rfl) ?_
  refine lv_iload hx hb dL_law_360 (lv_at hl 6 rfl) ?_
  refine lv_iconst (v := (1 : Int32)) hx hb dL_law_362 (by decide) ?_
  refine lv_iadd hx hb dL_law_363 ?_
  refine va_sld hx hb hX hbl hbA hS (hi 1 (by decide)) dL_law_364 ?_
  refine lv_aload_n hx hb dL_law_365 rfl (lv_at hl 1 rfl) ?_
  refine lv_iload hx hb dL_law_366 (lv_at hl 6 rfl) ?_
  refine lv_iconst (v := (2 : Int32)) hx hb dL_law_368 (by decide) ?_
  refine lv_iadd hx hb dL_law_369 ?_
  refine va_sld hx hb hX hbl hbA hS (hi 2 (by decide)) dL_law_370 ?_
  refine k_X12_setCapacity hx hb hml hown htg hK hW (va_S.rf (A := gF G)) h2 q427 hl.1 (Nat.le_of_ble_eq_true rfl) (Nat.le_of_ble_eq_true rfl) (Nat.le_of_ble_eq_true rfl) ⟨hc1, hc2⟩ dL_law_371 (fun H1 locs1 hW1 hS1 => ?_)
  replace hO := hO.call hw hS1
  replace hS := LS_step hS hS1 hG
  refine va_forget (fun q hq => hS.2.2 q hq) ?_
  replace hS := LS_nil hS
  replace hW := hW1
  refine lv_istore (lv' := [(7, .int b9), (6, .int (kO_setCapacity cd)), (0, .ref b), (1, .ref (gA G 14 0 0)), (2, .ref (gA G 40 0 0)), (3, .ref oJ), (4, .ref oD), (5, .int x5)]) hx hb dL_law_374 hl (by decide) rfl (fun ls hl => ?_)
  refine lv_aload_n hx hb dL_law_376 rfl (lv_at hl 4 rfl) ?_
  refine k_X12_thrown hx hb hml hown htg hK hW (va_S.rf (A := gF G)) (show m_X12_thrown w = some (w 40 0 0 0) from rfl) q380 hl.1 (Nat.le_of_ble_eq_true rfl) (Nat.le_of_ble_eq_true rfl) (Nat.le_of_ble_eq_true rfl) ⟨hc1, hc2⟩ dL_law_377 (fun H1 locs1 hW1 hS1 => ?_)
  replace hO := hO.call hw hS1
  replace hS := LS_step hS hS1 hG
  refine va_forget (fun q hq => hS.2.2 q hq) ?_
  replace hS := LS_nil hS
  replace hW := hW1
  refine lv_iload hx hb dL_law_380 (lv_at hl 1 rfl) ?_
  refine lv_icmp_eq (tgt := 387) hx hb dL_law_382 (by decide) (fun _ => ?_) (fun c9 => absurd hT c9)
  refine lv_iload hx hb dL_law_387 (lv_at hl 1 rfl) ?_
  refine lv_if_ne (tgt := 404) hx hb dL_law_389 (by decide) (fun _ => ?_) (fun c9 => ?_)
  · refine lv_goto (tgt := 1824) hx hb dL_law_404 (by decide) ?_
    exact K z w _ _ ls _ _ hR2 hW hO hS (lv_sub hl [2, 3, 4, 5, 6, 7] rfl)
  have h09 : cd = 0 := by
    rcases hcd with rfl | rfl | rfl | rfl
    · rfl
    · exact absurd c9 (by decide)
    · exact absurd c9 (by decide)
    · exact absurd c9 (by decide)
  subst h09
  replace hv := hv rfl
  subst hv
  rw [if_pos rfl] at hO
  refine lv_aload_n hx hb dL_law_392 rfl (lv_at hl 5 rfl) ?_
  refine lv_iconst (v := (0 : Int32)) hx hb dL_law_393 (by decide) ?_
  refine ol_J hx hb hK hO dL_law_394 ?_
  refine lv_iload hx hb dL_law_395 (lv_at hl 0 rfl) ?_
  refine lv_i2l (v := b9.toInt64) hx hb dL_law_397 rfl ?_
  refine W.lcmp hx hb dL_law_398 ?_
  rw [lg_self]
  refine lv_if_eq (tgt := 404) hx hb dL_law_399 (by decide) (fun _ => ?_) (fun c7 => absurd rfl c7)
  refine lv_goto (tgt := 1824) hx hb dL_law_404 (by decide) ?_
  exact K z w _ _ ls _ _ hR2 hW hO hS (lv_sub hl [2, 3, 4, 5, 6, 7] rfl)
def Sim_supply (Rel : Nat → Mem → Mem → Prop) : Prop := ∀ (i : Nat) (x y : Mem) (p0 : Int32) , i < 512 → Rel i x y → ∃ (cd : Nat) (v : Int32) (z : Mem) (b : Int32) (w : Mem), m_X11_supply p0 x = some (cd, v, z) ∧ m_X12_supply p0 y = some (b, w) ∧ (cd = 0 ∨ cd = 1 ∨ cd = 3) ∧ w 40 0 0 0 = kO_supply cd ∧ (cd = 0 → b = v) ∧ Rel (i + 1) z w
set_option maxHeartbeats 4000000 in
set_option maxRecDepth 100000 in
theorem lc_supply {p : Program} {l : Launch} {e : Env} {s : State} {m : MethodId} {args : Array Value} {below : List Frame} {meth : Method} {c : Code} {Q : State → Prop} (hx : p.tables.exec = Jvm.exec) (hb : c.code = cL_law) (hml : c.maxLocals = 9) (hown : s.vm.findClass RL = some m.cls) (htg : ∀ w ∈ wsG, w.before args s = true) (hst : l.stackTraces = false) {G : Geo} (hXt : Xt s) (hK : Kt G s) (hZ0 : Zt G s s.heap) {b L : Nat} {xs : Nat → Int32} (hX : va_X b L xs s s.heap) (hbl : b < s.heap.size) {oJ oD : Nat} (hw : Ow G oJ oD) (hA0 : ∀ q, gW G oJ oD q → s.heap.size ≤ q) (hGA : ∀ q, s.heap.size ≤ q → q ≠ oJ → q ≠ oD → gF G q) {Rel : Nat → Mem → Mem → Prop} {i : Nat} (hi5 : i < 512) {x5 : Int32} (hi0 : vp_in x5 L) (hi : ∀ k : Nat, k < 7 → vp_in (x5 + Int32.ofNat k) L) {cells slots : Nat} (hc1 : cells + 3 ≤ 603072) (hc2 : slots + 18 ≤ 7202922) (hsim : Sim_supply Rel) (K : ∀ (x y : Mem) (H : Heap) (locs : List Loc) (ls : Array Slot) (vj : Int64) (vd : UInt64), Rel (i + 1) x y → Wh G x y H → Oh G oJ oD vj vd H → va_S (LA s) s.heap H locs → lv_has ls 9 [(0, .ref b), (1, .ref (gA G 14 0 0)), (2, .ref (gA G 40 0 0)), (3, .ref oJ), (4, .ref oD), (5, .int x5)] → W p l e room_1 s m args below meth c H locs (cells + 3) (slots + 18) Q (F0 m 1824 ls [])) : ∀ (x y : Mem) (H : Heap) (locs : List Loc) (ls : Array Slot) (vj : Int64) (vd : UInt64), Rel i x y → Wh G x y H → Oh G oJ oD vj vd H → va_S (LA s) s.heap H locs → lv_has ls 9 [(0, .ref b), (1, .ref (gA G 14 0 0)), (2, .ref (gA G 40 0 0)), (3, .ref oJ), (4, .ref oD), (5, .int x5)] → W p l e room_1 s m args below meth c H locs cells slots Q (F0 m 407 ls []) := by
  intro x y H locs ls vj vd hR hW hO hS hl
  refine va_forget (fun q hq => hS.2.2 q hq) ?_
  replace hS := LS_nil hS
  have hbA : ¬ LA s b := Nat.not_le.mpr hbl
  have hG : ∀ q, gF G q → s.heap.size ≤ q := fun q h => hA0 q (Or.inl h)
  obtain ⟨cd, v, z, b9, w, h1, h2, hcd, hT, hv, hR2⟩ := hsim i x y ((xs (x5 + (1 : Int32)).toNatClampNeg)) hi5 hR
  refine lv_aload_n hx hb dL_law_407 rfl (lv_at hl 1 rfl) ?_
  refine lv_aload_n hx hb dL_law_408 rfl (lv_at hl 0 rfl) ?_
  refine lv_iload hx hb dL_law_409 (lv_at hl 5 rfl) ?_
  refine lv_iconst (v := (1 : Int32)) hx hb dL_law_411 (by decide) ?_
  refine lv_iadd hx hb dL_law_412 ?_
  refine va_sld hx hb hX hbl hbA hS (hi 1 (by decide)) dL_law_413 ?_
  refine lv_aload_n hx hb dL_law_414 rfl (lv_at hl 3 rfl) ?_
  refine kw_supply hx hb hml hown htg hst hXt (hZ0.law hS) (fun q hq => hGA q (Nat.le_trans hS.1 hq) (fun e9 => absurd hO.lt.1 (by rw [← e9]; omega)) (fun e9 => absurd hO.lt.2 (by rw [← e9]; omega))) hK hW hO hw hS hA0 h1 hcd q434 hl.1 (Nat.le_of_ble_eq_true rfl) (Nat.le_of_ble_eq_true rfl) (Nat.le_of_ble_eq_true rfl) ⟨hc1, hc2⟩ dL_law_415 (fun H1 locs1 hW1 hO1 hS1 hk1 hz1 => ?_)
  refine va_forget (fun q hq => hS1.2.2 q hq) ?_
  replace hS := LS_nil hS1
  replace hW := hW1
  replace hO := hO1
  refine lv_istore (lv' := [(6, .int (kO_supply cd)), (0, .ref b), (1, .ref (gA G 14 0 0)), (2, .ref (gA G 40 0 0)), (3, .ref oJ), (4, .ref oD), (5, .int x5)]) hx hb dL_law_418 hl (by decide) rfl (fun ls hl => ?_)
  refine lv_aload_n hx hb dL_law_420 rfl (lv_at hl 3 rfl) ?_
  refine lv_aload_n hx hb dL_law_421 rfl (lv_at hl 1 rfl) ?_
  refine lv_iload hx hb dL_law_422 (lv_at hl 6 rfl) ?_
  refine lv_iconst (v := (1 : Int32)) hx hb dL_law_424 (by decide) ?_
  refine lv_iadd hx hb dL_law_425 ?_
  refine va_sld hx hb hX hbl hbA hS (hi 1 (by decide)) dL_law_426 ?_
  refine k_X12_supply hx hb hml hown htg hK hW (va_S.rf (A := gF G)) h2 q453 hl.1 (Nat.le_of_ble_eq_true rfl) (Nat.le_of_ble_eq_true rfl) (Nat.le_of_ble_eq_true rfl) ⟨hc1, hc2⟩ dL_law_427 (fun H1 locs1 hW1 hS1 => ?_)
  replace hO := hO.call hw hS1
  replace hS := LS_step hS hS1 hG
  refine va_forget (fun q hq => hS.2.2 q hq) ?_
  replace hS := LS_nil hS
  replace hW := hW1
  refine lv_istore (lv' := [(7, .int b9), (6, .int (kO_supply cd)), (0, .ref b), (1, .ref (gA G 14 0 0)), (2, .ref (gA G 40 0 0)), (3, .ref oJ), (4, .ref oD), (5, .int x5)]) hx hb dL_law_430 hl (by decide) rfl (fun ls hl => ?_)
  refine lv_aload_n hx hb dL_law_432 rfl (lv_at hl 4 rfl) ?_
  refine k_X12_thrown hx hb hml hown htg hK hW (va_S.rf (A := gF G)) (show m_X12_thrown w = some (w 40 0 0 0) from rfl) q380 hl.1 (Nat.le_of_ble_eq_true rfl) (Nat.le_of_ble_eq_true rfl) (Nat.le_of_ble_eq_true rfl) ⟨hc1, hc2⟩ dL_law_433 (fun H1 locs1 hW1 hS1 => ?_)
  replace hO := hO.call hw hS1
  replace hS := LS_step hS hS1 hG
  refine va_forget (fun q hq => hS.2.2 q hq) ?_
  replace hS := LS_nil hS
  replace hW := hW1
  refine lv_iload hx hb dL_law_436 (lv_at hl 1 rfl) ?_
  refine lv_icmp_eq (tgt := 443) hx hb dL_law_438 (by decide) (fun _ => ?_) (fun c9 => absurd hT c9)
  refine lv_iload hx hb dL_law_443 (lv_at hl 1 rfl) ?_
  refine lv_if_ne (tgt := 460) hx hb dL_law_445 (by decide) (fun _ => ?_) (fun c9 => ?_)
  · refine lv_goto (tgt := 1824) hx hb dL_law_460 (by decide) ?_
    exact K z w _ _ ls _ _ hR2 hW hO hS (lv_sub hl [2, 3, 4, 5, 6, 7] rfl)
  have h09 : cd = 0 := by
    rcases hcd with rfl | rfl | rfl
    · rfl
    · exact absurd c9 (by decide)
    · exact absurd c9 (by decide)
  subst h09
  replace hv := hv rfl
  subst hv
  rw [if_pos rfl] at hO
  refine lv_aload_n hx hb dL_law_448 rfl (lv_at hl 5 rfl) ?_
  refine lv_iconst (v := (0 : Int32)) hx hb dL_law_449 (by decide) ?_
  refine ol_J hx hb hK hO dL_law_450 ?_
  refine lv_iload hx hb dL_law_451 (lv_at hl 0 rfl) ?_
  refine lv_i2l (v := b9.toInt64) hx hb dL_law_453 rfl ?_
  refine W.lcmp hx hb dL_law_454 ?_
  rw [lg_self]
  refine lv_if_eq (tgt := 460) hx hb dL_law_455 (by decide) (fun _ => ?_) (fun c7 => absurd rfl c7)
  refine lv_goto (tgt := 1824) hx hb dL_law_460 (by decide) ?_
  exact K z w _ _ ls _ _ hR2 hW hO hS (lv_sub hl [2, 3, 4, 5, 6, 7] rfl)
def Sim_zone (Rel : Nat → Mem → Mem → Prop) : Prop := ∀ (i : Nat) (x y : Mem) (p0 p1 : Int32) , i < 512 → Rel i x y → ∃ (cd : Nat) (v : Int32) (z : Mem) (b : Int32) (w : Mem), m_X11_zone p0 p1 x = some (cd, v, z) ∧ m_X12_zone p0 p1 y = some (b, w) ∧ (cd = 0 ∨ cd = 1 ∨ cd = 2) ∧ w 40 0 0 0 = kO_zone cd ∧ (cd = 0 → b = v) ∧ Rel (i + 1) z w
set_option maxHeartbeats 4000000 in
set_option maxRecDepth 100000 in
theorem lc_zone {p : Program} {l : Launch} {e : Env} {s : State} {m : MethodId} {args : Array Value} {below : List Frame} {meth : Method} {c : Code} {Q : State → Prop} (hx : p.tables.exec = Jvm.exec) (hb : c.code = cL_law) (hml : c.maxLocals = 9) (hown : s.vm.findClass RL = some m.cls) (htg : ∀ w ∈ wsG, w.before args s = true) (hst : l.stackTraces = false) {G : Geo} (hXt : Xt s) (hK : Kt G s) (hZ0 : Zt G s s.heap) {b L : Nat} {xs : Nat → Int32} (hX : va_X b L xs s s.heap) (hbl : b < s.heap.size) {oJ oD : Nat} (hw : Ow G oJ oD) (hA0 : ∀ q, gW G oJ oD q → s.heap.size ≤ q) (hGA : ∀ q, s.heap.size ≤ q → q ≠ oJ → q ≠ oD → gF G q) {Rel : Nat → Mem → Mem → Prop} {i : Nat} (hi5 : i < 512) {x5 : Int32} (hi0 : vp_in x5 L) (hi : ∀ k : Nat, k < 7 → vp_in (x5 + Int32.ofNat k) L) {cells slots : Nat} (hc1 : cells + 3 ≤ 603072) (hc2 : slots + 18 ≤ 7202922) (hsim : Sim_zone Rel) (K : ∀ (x y : Mem) (H : Heap) (locs : List Loc) (ls : Array Slot) (vj : Int64) (vd : UInt64), Rel (i + 1) x y → Wh G x y H → Oh G oJ oD vj vd H → va_S (LA s) s.heap H locs → lv_has ls 9 [(0, .ref b), (1, .ref (gA G 14 0 0)), (2, .ref (gA G 40 0 0)), (3, .ref oJ), (4, .ref oD), (5, .int x5)] → W p l e room_1 s m args below meth c H locs (cells + 3) (slots + 18) Q (F0 m 1824 ls [])) : ∀ (x y : Mem) (H : Heap) (locs : List Loc) (ls : Array Slot) (vj : Int64) (vd : UInt64), Rel i x y → Wh G x y H → Oh G oJ oD vj vd H → va_S (LA s) s.heap H locs → lv_has ls 9 [(0, .ref b), (1, .ref (gA G 14 0 0)), (2, .ref (gA G 40 0 0)), (3, .ref oJ), (4, .ref oD), (5, .int x5)] → W p l e room_1 s m args below meth c H locs cells slots Q (F0 m 463 ls []) := by
  intro x y H locs ls vj vd hR hW hO hS hl
  refine va_forget (fun q hq => hS.2.2 q hq) ?_
  replace hS := LS_nil hS
  have hbA : ¬ LA s b := Nat.not_le.mpr hbl
  have hG : ∀ q, gF G q → s.heap.size ≤ q := fun q h => hA0 q (Or.inl h)
  obtain ⟨cd, v, z, b9, w, h1, h2, hcd, hT, hv, hR2⟩ := hsim i x y ((xs (x5 + (1 : Int32)).toNatClampNeg)) ((xs (x5 + (2 : Int32)).toNatClampNeg)) hi5 hR
  refine lv_aload_n hx hb dL_law_463 rfl (lv_at hl 1 rfl) ?_
  refine lv_aload_n hx hb dL_law_464 rfl (lv_at hl 0 rfl) ?_
  refine lv_iload hx hb dL_law_465 (lv_at hl 5 rfl) ?_
  refine lv_iconst (v := (1 : Int32)) hx hb dL_law_467 (by decide) ?_
  refine lv_iadd hx hb dL_law_468 ?_
  refine va_sld hx hb hX hbl hbA hS (hi 1 (by decide)) dL_law_469 ?_
  refine lv_aload_n hx hb dL_law_470 rfl (lv_at hl 0 rfl) ?_
  refine lv_iload hx hb dL_law_471 (lv_at hl 5 rfl) ?_
  refine lv_iconst (v := (2 : Int32)) hx hb dL_law_473 (by decide) ?_
  refine lv_iadd hx hb dL_law_474 ?_
  refine va_sld hx hb hX hbl hbA hS (hi 2 (by decide)) dL_law_475 ?_
  refine lv_aload_n hx hb dL_law_476 rfl (lv_at hl 3 rfl) ?_
  refine kw_zone hx hb hml hown htg hst hXt (hZ0.law hS) (fun q hq => hGA q (Nat.le_trans hS.1 hq) (fun e9 => absurd hO.lt.1 (by rw [← e9]; omega)) (fun e9 => absurd hO.lt.2 (by rw [← e9]; omega))) hK hW hO hw hS hA0 h1 hcd q461 hl.1 (Nat.le_of_ble_eq_true rfl) (Nat.le_of_ble_eq_true rfl) (Nat.le_of_ble_eq_true rfl) ⟨hc1, hc2⟩ dL_law_477 (fun H1 locs1 hW1 hO1 hS1 hk1 hz1 => ?_)
  refine va_forget (fun q hq => hS1.2.2 q hq) ?_
  replace hS := LS_nil hS1
  replace hW := hW1
  replace hO := hO1
  refine lv_istore (lv' := [(6, .int (kO_zone cd)), (0, .ref b), (1, .ref (gA G 14 0 0)), (2, .ref (gA G 40 0 0)), (3, .ref oJ), (4, .ref oD), (5, .int x5)]) hx hb dL_law_480 hl (by decide) rfl (fun ls hl => ?_)
  refine lv_aload_n hx hb dL_law_482 rfl (lv_at hl 3 rfl) ?_
  refine lv_aload_n hx hb dL_law_483 rfl (lv_at hl 1 rfl) ?_
  refine lv_iload hx hb dL_law_484 (lv_at hl 6 rfl) ?_
  refine lv_iconst (v := (1 : Int32)) hx hb dL_law_486 (by decide) ?_
  refine lv_iadd hx hb dL_law_487 ?_
  refine va_sld hx hb hX hbl hbA hS (hi 1 (by decide)) dL_law_488 ?_
  refine lv_aload_n hx hb dL_law_489 rfl (lv_at hl 1 rfl) ?_
  refine lv_iload hx hb dL_law_490 (lv_at hl 6 rfl) ?_
  refine lv_iconst (v := (2 : Int32)) hx hb dL_law_492 (by decide) ?_
  refine lv_iadd hx hb dL_law_493 ?_
  refine va_sld hx hb hX hbl hbA hS (hi 2 (by decide)) dL_law_494 ?_
  refine k_X12_zone hx hb hml hown htg hK hW (va_S.rf (A := gF G)) h2 q486 hl.1 (Nat.le_of_ble_eq_true rfl) (Nat.le_of_ble_eq_true rfl) (Nat.le_of_ble_eq_true rfl) ⟨hc1, hc2⟩ dL_law_495 (fun H1 locs1 hW1 hS1 => ?_)
  replace hO := hO.call hw hS1
  replace hS := LS_step hS hS1 hG
  refine va_forget (fun q hq => hS.2.2 q hq) ?_
  replace hS := LS_nil hS
  replace hW := hW1
  refine lv_istore (lv' := [(7, .int b9), (6, .int (kO_zone cd)), (0, .ref b), (1, .ref (gA G 14 0 0)), (2, .ref (gA G 40 0 0)), (3, .ref oJ), (4, .ref oD), (5, .int x5)]) hx hb dL_law_498 hl (by decide) rfl (fun ls hl => ?_)
  refine lv_aload_n hx hb dL_law_500 rfl (lv_at hl 4 rfl) ?_
  refine k_X12_thrown hx hb hml hown htg hK hW (va_S.rf (A := gF G)) (show m_X12_thrown w = some (w 40 0 0 0) from rfl) q380 hl.1 (Nat.le_of_ble_eq_true rfl) (Nat.le_of_ble_eq_true rfl) (Nat.le_of_ble_eq_true rfl) ⟨hc1, hc2⟩ dL_law_501 (fun H1 locs1 hW1 hS1 => ?_)
  replace hO := hO.call hw hS1
  replace hS := LS_step hS hS1 hG
  refine va_forget (fun q hq => hS.2.2 q hq) ?_
  replace hS := LS_nil hS
  replace hW := hW1
  refine lv_iload hx hb dL_law_504 (lv_at hl 1 rfl) ?_
  refine lv_icmp_eq (tgt := 511) hx hb dL_law_506 (by decide) (fun _ => ?_) (fun c9 => absurd hT c9)
  refine lv_iload hx hb dL_law_511 (lv_at hl 1 rfl) ?_
  refine lv_if_ne (tgt := 528) hx hb dL_law_513 (by decide) (fun _ => ?_) (fun c9 => ?_)
  · refine lv_goto (tgt := 1824) hx hb dL_law_528 (by decide) ?_
    exact K z w _ _ ls _ _ hR2 hW hO hS (lv_sub hl [2, 3, 4, 5, 6, 7] rfl)
  have h09 : cd = 0 := by
    rcases hcd with rfl | rfl | rfl
    · rfl
    · exact absurd c9 (by decide)
    · exact absurd c9 (by decide)
  subst h09
  replace hv := hv rfl
  subst hv
  rw [if_pos rfl] at hO
  refine lv_aload_n hx hb dL_law_516 rfl (lv_at hl 5 rfl) ?_
  refine lv_iconst (v := (0 : Int32)) hx hb dL_law_517 (by decide) ?_
  refine ol_J hx hb hK hO dL_law_518 ?_
  refine lv_iload hx hb dL_law_519 (lv_at hl 0 rfl) ?_
  refine lv_i2l (v := b9.toInt64) hx hb dL_law_521 rfl ?_
  refine W.lcmp hx hb dL_law_522 ?_
  rw [lg_self]
  refine lv_if_eq (tgt := 528) hx hb dL_law_523 (by decide) (fun _ => ?_) (fun c7 => absurd rfl c7)
  refine lv_goto (tgt := 1824) hx hb dL_law_528 (by decide) ?_
  exact K z w _ _ ls _ _ hR2 hW hO hS (lv_sub hl [2, 3, 4, 5, 6, 7] rfl)
def Sim_buffer (Rel : Nat → Mem → Mem → Prop) : Prop := ∀ (i : Nat) (x y : Mem) (p0 p1 : Int32) , i < 512 → Rel i x y → ∃ (cd : Nat) (v : Int32) (z : Mem) (b : Int32) (w : Mem), m_X11_buffer p0 p1 x = some (cd, v, z) ∧ m_X12_buffer p0 p1 y = some (b, w) ∧ (cd = 0 ∨ cd = 1 ∨ cd = 2) ∧ w 40 0 0 0 = kO_buffer cd ∧ (cd = 0 → b = v) ∧ Rel (i + 1) z w
set_option maxHeartbeats 4000000 in
set_option maxRecDepth 100000 in
theorem lc_buffer {p : Program} {l : Launch} {e : Env} {s : State} {m : MethodId} {args : Array Value} {below : List Frame} {meth : Method} {c : Code} {Q : State → Prop} (hx : p.tables.exec = Jvm.exec) (hb : c.code = cL_law) (hml : c.maxLocals = 9) (hown : s.vm.findClass RL = some m.cls) (htg : ∀ w ∈ wsG, w.before args s = true) (hst : l.stackTraces = false) {G : Geo} (hXt : Xt s) (hK : Kt G s) (hZ0 : Zt G s s.heap) {b L : Nat} {xs : Nat → Int32} (hX : va_X b L xs s s.heap) (hbl : b < s.heap.size) {oJ oD : Nat} (hw : Ow G oJ oD) (hA0 : ∀ q, gW G oJ oD q → s.heap.size ≤ q) (hGA : ∀ q, s.heap.size ≤ q → q ≠ oJ → q ≠ oD → gF G q) {Rel : Nat → Mem → Mem → Prop} {i : Nat} (hi5 : i < 512) {x5 : Int32} (hi0 : vp_in x5 L) (hi : ∀ k : Nat, k < 7 → vp_in (x5 + Int32.ofNat k) L) {cells slots : Nat} (hc1 : cells + 3 ≤ 603072) (hc2 : slots + 18 ≤ 7202922) (hsim : Sim_buffer Rel) (K : ∀ (x y : Mem) (H : Heap) (locs : List Loc) (ls : Array Slot) (vj : Int64) (vd : UInt64), Rel (i + 1) x y → Wh G x y H → Oh G oJ oD vj vd H → va_S (LA s) s.heap H locs → lv_has ls 9 [(0, .ref b), (1, .ref (gA G 14 0 0)), (2, .ref (gA G 40 0 0)), (3, .ref oJ), (4, .ref oD), (5, .int x5)] → W p l e room_1 s m args below meth c H locs (cells + 3) (slots + 18) Q (F0 m 1824 ls [])) : ∀ (x y : Mem) (H : Heap) (locs : List Loc) (ls : Array Slot) (vj : Int64) (vd : UInt64), Rel i x y → Wh G x y H → Oh G oJ oD vj vd H → va_S (LA s) s.heap H locs → lv_has ls 9 [(0, .ref b), (1, .ref (gA G 14 0 0)), (2, .ref (gA G 40 0 0)), (3, .ref oJ), (4, .ref oD), (5, .int x5)] → W p l e room_1 s m args below meth c H locs cells slots Q (F0 m 531 ls []) := by
  intro x y H locs ls vj vd hR hW hO hS hl
  refine va_forget (fun q hq => hS.2.2 q hq) ?_
  replace hS := LS_nil hS
  have hbA : ¬ LA s b := Nat.not_le.mpr hbl
  have hG : ∀ q, gF G q → s.heap.size ≤ q := fun q h => hA0 q (Or.inl h)
  obtain ⟨cd, v, z, b9, w, h1, h2, hcd, hT, hv, hR2⟩ := hsim i x y ((xs (x5 + (1 : Int32)).toNatClampNeg)) ((xs (x5 + (2 : Int32)).toNatClampNeg)) hi5 hR
  refine lv_aload_n hx hb dL_law_531 rfl (lv_at hl 1 rfl) ?_
  refine lv_aload_n hx hb dL_law_532 rfl (lv_at hl 0 rfl) ?_
  refine lv_iload hx hb dL_law_533 (lv_at hl 5 rfl) ?_
  refine lv_iconst (v := (1 : Int32)) hx hb dL_law_535 (by decide) ?_
  refine lv_iadd hx hb dL_law_536 ?_
  refine va_sld hx hb hX hbl hbA hS (hi 1 (by decide)) dL_law_537 ?_
  refine lv_aload_n hx hb dL_law_538 rfl (lv_at hl 0 rfl) ?_
  refine lv_iload hx hb dL_law_539 (lv_at hl 5 rfl) ?_
  refine lv_iconst (v := (2 : Int32)) hx hb dL_law_541 (by decide) ?_
  refine lv_iadd hx hb dL_law_542 ?_
  refine va_sld hx hb hX hbl hbA hS (hi 2 (by decide)) dL_law_543 ?_
  refine lv_aload_n hx hb dL_law_544 rfl (lv_at hl 3 rfl) ?_
  refine kw_buffer hx hb hml hown htg hst hXt (hZ0.law hS) (fun q hq => hGA q (Nat.le_trans hS.1 hq) (fun e9 => absurd hO.lt.1 (by rw [← e9]; omega)) (fun e9 => absurd hO.lt.2 (by rw [← e9]; omega))) hK hW hO hw hS hA0 h1 hcd q494 hl.1 (Nat.le_of_ble_eq_true rfl) (Nat.le_of_ble_eq_true rfl) (Nat.le_of_ble_eq_true rfl) ⟨hc1, hc2⟩ dL_law_545 (fun H1 locs1 hW1 hO1 hS1 hk1 hz1 => ?_)
  refine va_forget (fun q hq => hS1.2.2 q hq) ?_
  replace hS := LS_nil hS1
  replace hW := hW1
  replace hO := hO1
  refine lv_istore (lv' := [(6, .int (kO_buffer cd)), (0, .ref b), (1, .ref (gA G 14 0 0)), (2, .ref (gA G 40 0 0)), (3, .ref oJ), (4, .ref oD), (5, .int x5)]) hx hb dL_law_548 hl (by decide) rfl (fun ls hl => ?_)
  refine lv_aload_n hx hb dL_law_550 rfl (lv_at hl 3 rfl) ?_
  refine lv_aload_n hx hb dL_law_551 rfl (lv_at hl 1 rfl) ?_
  refine lv_iload hx hb dL_law_552 (lv_at hl 6 rfl) ?_
  refine lv_iconst (v := (1 : Int32)) hx hb dL_law_554 (by decide) ?_
  refine lv_iadd hx hb dL_law_555 ?_
  refine va_sld hx hb hX hbl hbA hS (hi 1 (by decide)) dL_law_556 ?_
  refine lv_aload_n hx hb dL_law_557 rfl (lv_at hl 1 rfl) ?_
  refine lv_iload hx hb dL_law_558 (lv_at hl 6 rfl) ?_
  refine lv_iconst (v := (2 : Int32)) hx hb dL_law_560 (by decide) ?_
  refine lv_iadd hx hb dL_law_561 ?_
  refine va_sld hx hb hX hbl hbA hS (hi 2 (by decide)) dL_law_562 ?_
  refine k_X12_buffer hx hb hml hown htg hK hW (va_S.rf (A := gF G)) h2 q505 hl.1 (Nat.le_of_ble_eq_true rfl) (Nat.le_of_ble_eq_true rfl) (Nat.le_of_ble_eq_true rfl) ⟨hc1, hc2⟩ dL_law_563 (fun H1 locs1 hW1 hS1 => ?_)
  replace hO := hO.call hw hS1
  replace hS := LS_step hS hS1 hG
  refine va_forget (fun q hq => hS.2.2 q hq) ?_
  replace hS := LS_nil hS
  replace hW := hW1
  refine lv_istore (lv' := [(7, .int b9), (6, .int (kO_buffer cd)), (0, .ref b), (1, .ref (gA G 14 0 0)), (2, .ref (gA G 40 0 0)), (3, .ref oJ), (4, .ref oD), (5, .int x5)]) hx hb dL_law_566 hl (by decide) rfl (fun ls hl => ?_)
  refine lv_aload_n hx hb dL_law_568 rfl (lv_at hl 4 rfl) ?_
  refine k_X12_thrown hx hb hml hown htg hK hW (va_S.rf (A := gF G)) (show m_X12_thrown w = some (w 40 0 0 0) from rfl) q380 hl.1 (Nat.le_of_ble_eq_true rfl) (Nat.le_of_ble_eq_true rfl) (Nat.le_of_ble_eq_true rfl) ⟨hc1, hc2⟩ dL_law_569 (fun H1 locs1 hW1 hS1 => ?_)
  replace hO := hO.call hw hS1
  replace hS := LS_step hS hS1 hG
  refine va_forget (fun q hq => hS.2.2 q hq) ?_
  replace hS := LS_nil hS
  replace hW := hW1
  refine lv_iload hx hb dL_law_572 (lv_at hl 1 rfl) ?_
  refine lv_icmp_eq (tgt := 579) hx hb dL_law_574 (by decide) (fun _ => ?_) (fun c9 => absurd hT c9)
  refine lv_iload hx hb dL_law_579 (lv_at hl 1 rfl) ?_
  refine lv_if_ne (tgt := 596) hx hb dL_law_581 (by decide) (fun _ => ?_) (fun c9 => ?_)
  · refine lv_goto (tgt := 1824) hx hb dL_law_596 (by decide) ?_
    exact K z w _ _ ls _ _ hR2 hW hO hS (lv_sub hl [2, 3, 4, 5, 6, 7] rfl)
  have h09 : cd = 0 := by
    rcases hcd with rfl | rfl | rfl
    · rfl
    · exact absurd c9 (by decide)
    · exact absurd c9 (by decide)
  subst h09
  replace hv := hv rfl
  subst hv
  rw [if_pos rfl] at hO
  refine lv_aload_n hx hb dL_law_584 rfl (lv_at hl 5 rfl) ?_
  refine lv_iconst (v := (0 : Int32)) hx hb dL_law_585 (by decide) ?_
  refine ol_J hx hb hK hO dL_law_586 ?_
  refine lv_iload hx hb dL_law_587 (lv_at hl 0 rfl) ?_
  refine lv_i2l (v := b9.toInt64) hx hb dL_law_589 rfl ?_
  refine W.lcmp hx hb dL_law_590 ?_
  rw [lg_self]
  refine lv_if_eq (tgt := 596) hx hb dL_law_591 (by decide) (fun _ => ?_) (fun c7 => absurd rfl c7)
  refine lv_goto (tgt := 1824) hx hb dL_law_596 (by decide) ?_
  exact K z w _ _ ls _ _ hR2 hW hO hS (lv_sub hl [2, 3, 4, 5, 6, 7] rfl)
def Sim_part (Rel : Nat → Mem → Mem → Prop) : Prop := ∀ (i : Nat) (x y : Mem) (p0 p1 : Int32) , i < 512 → Rel i x y → ∃ (cd : Nat) (v : Int32) (z : Mem) (b : Int32) (w : Mem), m_X11_part p0 p1 x = some (cd, v, z) ∧ m_X12_part p0 p1 y = some (b, w) ∧ (cd = 0 ∨ cd = 1 ∨ cd = 5) ∧ w 40 0 0 0 = kO_part cd ∧ (cd = 0 → b = v) ∧ Rel (i + 1) z w
set_option maxHeartbeats 4000000 in
set_option maxRecDepth 100000 in
theorem lc_part {p : Program} {l : Launch} {e : Env} {s : State} {m : MethodId} {args : Array Value} {below : List Frame} {meth : Method} {c : Code} {Q : State → Prop} (hx : p.tables.exec = Jvm.exec) (hb : c.code = cL_law) (hml : c.maxLocals = 9) (hown : s.vm.findClass RL = some m.cls) (htg : ∀ w ∈ wsG, w.before args s = true) (hst : l.stackTraces = false) {G : Geo} (hXt : Xt s) (hK : Kt G s) (hZ0 : Zt G s s.heap) {b L : Nat} {xs : Nat → Int32} (hX : va_X b L xs s s.heap) (hbl : b < s.heap.size) {oJ oD : Nat} (hw : Ow G oJ oD) (hA0 : ∀ q, gW G oJ oD q → s.heap.size ≤ q) (hGA : ∀ q, s.heap.size ≤ q → q ≠ oJ → q ≠ oD → gF G q) {Rel : Nat → Mem → Mem → Prop} {i : Nat} (hi5 : i < 512) {x5 : Int32} (hi0 : vp_in x5 L) (hi : ∀ k : Nat, k < 7 → vp_in (x5 + Int32.ofNat k) L) {cells slots : Nat} (hc1 : cells + 3 ≤ 603072) (hc2 : slots + 18 ≤ 7202922) (hsim : Sim_part Rel) (K : ∀ (x y : Mem) (H : Heap) (locs : List Loc) (ls : Array Slot) (vj : Int64) (vd : UInt64), Rel (i + 1) x y → Wh G x y H → Oh G oJ oD vj vd H → va_S (LA s) s.heap H locs → lv_has ls 9 [(0, .ref b), (1, .ref (gA G 14 0 0)), (2, .ref (gA G 40 0 0)), (3, .ref oJ), (4, .ref oD), (5, .int x5)] → W p l e room_1 s m args below meth c H locs (cells + 3) (slots + 18) Q (F0 m 1824 ls [])) : ∀ (x y : Mem) (H : Heap) (locs : List Loc) (ls : Array Slot) (vj : Int64) (vd : UInt64), Rel i x y → Wh G x y H → Oh G oJ oD vj vd H → va_S (LA s) s.heap H locs → lv_has ls 9 [(0, .ref b), (1, .ref (gA G 14 0 0)), (2, .ref (gA G 40 0 0)), (3, .ref oJ), (4, .ref oD), (5, .int x5)] → W p l e room_1 s m args below meth c H locs cells slots Q (F0 m 599 ls []) := by
  intro x y H locs ls vj vd hR hW hO hS hl
  refine va_forget (fun q hq => hS.2.2 q hq) ?_
  replace hS := LS_nil hS
  have hbA : ¬ LA s b := Nat.not_le.mpr hbl
  have hG : ∀ q, gF G q → s.heap.size ≤ q := fun q h => hA0 q (Or.inl h)
  obtain ⟨cd, v, z, b9, w, h1, h2, hcd, hT, hv, hR2⟩ := hsim i x y ((xs (x5 + (1 : Int32)).toNatClampNeg)) ((xs (x5 + (2 : Int32)).toNatClampNeg)) hi5 hR
  refine lv_aload_n hx hb dL_law_599 rfl (lv_at hl 1 rfl) ?_
  refine lv_aload_n hx hb dL_law_600 rfl (lv_at hl 0 rfl) ?_
  refine lv_iload hx hb dL_law_601 (lv_at hl 5 rfl) ?_
  refine lv_iconst (v := (1 : Int32)) hx hb dL_law_603 (by decide) ?_
  refine lv_iadd hx hb dL_law_604 ?_
  refine va_sld hx hb hX hbl hbA hS (hi 1 (by decide)) dL_law_605 ?_
  refine lv_aload_n hx hb dL_law_606 rfl (lv_at hl 0 rfl) ?_
  refine lv_iload hx hb dL_law_607 (lv_at hl 5 rfl) ?_
  refine lv_iconst (v := (2 : Int32)) hx hb dL_law_609 (by decide) ?_
  refine lv_iadd hx hb dL_law_610 ?_
  refine va_sld hx hb hX hbl hbA hS (hi 2 (by decide)) dL_law_611 ?_
  refine lv_aload_n hx hb dL_law_612 rfl (lv_at hl 3 rfl) ?_
  refine kw_part hx hb hml hown htg hst hXt (hZ0.law hS) (fun q hq => hGA q (Nat.le_trans hS.1 hq) (fun e9 => absurd hO.lt.1 (by rw [← e9]; omega)) (fun e9 => absurd hO.lt.2 (by rw [← e9]; omega))) hK hW hO hw hS hA0 h1 hcd q509 hl.1 (Nat.le_of_ble_eq_true rfl) (Nat.le_of_ble_eq_true rfl) (Nat.le_of_ble_eq_true rfl) ⟨hc1, hc2⟩ dL_law_613 (fun H1 locs1 hW1 hO1 hS1 hk1 hz1 => ?_)
  refine va_forget (fun q hq => hS1.2.2 q hq) ?_
  replace hS := LS_nil hS1
  replace hW := hW1
  replace hO := hO1
  refine lv_istore (lv' := [(6, .int (kO_part cd)), (0, .ref b), (1, .ref (gA G 14 0 0)), (2, .ref (gA G 40 0 0)), (3, .ref oJ), (4, .ref oD), (5, .int x5)]) hx hb dL_law_616 hl (by decide) rfl (fun ls hl => ?_)
  refine lv_aload_n hx hb dL_law_618 rfl (lv_at hl 3 rfl) ?_
  refine lv_aload_n hx hb dL_law_619 rfl (lv_at hl 1 rfl) ?_
  refine lv_iload hx hb dL_law_620 (lv_at hl 6 rfl) ?_
  refine lv_iconst (v := (1 : Int32)) hx hb dL_law_622 (by decide) ?_
  refine lv_iadd hx hb dL_law_623 ?_
  refine va_sld hx hb hX hbl hbA hS (hi 1 (by decide)) dL_law_624 ?_
  refine lv_aload_n hx hb dL_law_625 rfl (lv_at hl 1 rfl) ?_
  refine lv_iload hx hb dL_law_626 (lv_at hl 6 rfl) ?_
  refine lv_iconst (v := (2 : Int32)) hx hb dL_law_628 (by decide) ?_
  refine lv_iadd hx hb dL_law_629 ?_
  refine va_sld hx hb hX hbl hbA hS (hi 2 (by decide)) dL_law_630 ?_
  refine k_X12_part hx hb hml hown htg hK hW (va_S.rf (A := gF G)) h2 q524 hl.1 (Nat.le_of_ble_eq_true rfl) (Nat.le_of_ble_eq_true rfl) (Nat.le_of_ble_eq_true rfl) ⟨hc1, hc2⟩ dL_law_631 (fun H1 locs1 hW1 hS1 => ?_)
  replace hO := hO.call hw hS1
  replace hS := LS_step hS hS1 hG
  refine va_forget (fun q hq => hS.2.2 q hq) ?_
  replace hS := LS_nil hS
  replace hW := hW1
  refine lv_istore (lv' := [(7, .int b9), (6, .int (kO_part cd)), (0, .ref b), (1, .ref (gA G 14 0 0)), (2, .ref (gA G 40 0 0)), (3, .ref oJ), (4, .ref oD), (5, .int x5)]) hx hb dL_law_634 hl (by decide) rfl (fun ls hl => ?_)
  refine lv_aload_n hx hb dL_law_636 rfl (lv_at hl 4 rfl) ?_
  refine k_X12_thrown hx hb hml hown htg hK hW (va_S.rf (A := gF G)) (show m_X12_thrown w = some (w 40 0 0 0) from rfl) q380 hl.1 (Nat.le_of_ble_eq_true rfl) (Nat.le_of_ble_eq_true rfl) (Nat.le_of_ble_eq_true rfl) ⟨hc1, hc2⟩ dL_law_637 (fun H1 locs1 hW1 hS1 => ?_)
  replace hO := hO.call hw hS1
  replace hS := LS_step hS hS1 hG
  refine va_forget (fun q hq => hS.2.2 q hq) ?_
  replace hS := LS_nil hS
  replace hW := hW1
  refine lv_iload hx hb dL_law_640 (lv_at hl 1 rfl) ?_
  refine lv_icmp_eq (tgt := 647) hx hb dL_law_642 (by decide) (fun _ => ?_) (fun c9 => absurd hT c9)
  refine lv_iload hx hb dL_law_647 (lv_at hl 1 rfl) ?_
  refine lv_if_ne (tgt := 664) hx hb dL_law_649 (by decide) (fun _ => ?_) (fun c9 => ?_)
  · refine lv_goto (tgt := 1824) hx hb dL_law_664 (by decide) ?_
    exact K z w _ _ ls _ _ hR2 hW hO hS (lv_sub hl [2, 3, 4, 5, 6, 7] rfl)
  have h09 : cd = 0 := by
    rcases hcd with rfl | rfl | rfl
    · rfl
    · exact absurd c9 (by decide)
    · exact absurd c9 (by decide)
  subst h09
  replace hv := hv rfl
  subst hv
  rw [if_pos rfl] at hO
  refine lv_aload_n hx hb dL_law_652 rfl (lv_at hl 5 rfl) ?_
  refine lv_iconst (v := (0 : Int32)) hx hb dL_law_653 (by decide) ?_
  refine ol_J hx hb hK hO dL_law_654 ?_
  refine lv_iload hx hb dL_law_655 (lv_at hl 0 rfl) ?_
  refine lv_i2l (v := b9.toInt64) hx hb dL_law_657 rfl ?_
  refine W.lcmp hx hb dL_law_658 ?_
  rw [lg_self]
  refine lv_if_eq (tgt := 664) hx hb dL_law_659 (by decide) (fun _ => ?_) (fun c7 => absurd rfl c7)
  refine lv_goto (tgt := 1824) hx hb dL_law_664 (by decide) ?_
  exact K z w _ _ ls _ _ hR2 hW hO hS (lv_sub hl [2, 3, 4, 5, 6, 7] rfl)
def Sim_give (Rel : Nat → Mem → Mem → Prop) : Prop := ∀ (i : Nat) (x y : Mem) (p0 p1 p2 p3 p4 p5 : Int32) , i < 512 → Rel i x y → ∃ (cd : Nat) (v : Int32) (z : Mem) (b : Int32) (w : Mem), m_X11_give p0 p1 p2 p3 p4 p5 x = some (cd, v, z) ∧ m_X12_give p0 p1 p2 p3 p4 p5 y = some (b, w) ∧ (cd = 0 ∨ cd = 1 ∨ cd = 2 ∨ cd = 4 ∨ cd = 3) ∧ w 40 0 0 0 = kO_give cd ∧ (cd = 0 → b = v) ∧ Rel (i + 1) z w
set_option maxHeartbeats 4000000 in
set_option maxRecDepth 100000 in
theorem lc_give {p : Program} {l : Launch} {e : Env} {s : State} {m : MethodId} {args : Array Value} {below : List Frame} {meth : Method} {c : Code} {Q : State → Prop} (hx : p.tables.exec = Jvm.exec) (hb : c.code = cL_law) (hml : c.maxLocals = 9) (hown : s.vm.findClass RL = some m.cls) (htg : ∀ w ∈ wsG, w.before args s = true) (hst : l.stackTraces = false) {G : Geo} (hXt : Xt s) (hK : Kt G s) (hZ0 : Zt G s s.heap) {b L : Nat} {xs : Nat → Int32} (hX : va_X b L xs s s.heap) (hbl : b < s.heap.size) {oJ oD : Nat} (hw : Ow G oJ oD) (hA0 : ∀ q, gW G oJ oD q → s.heap.size ≤ q) (hGA : ∀ q, s.heap.size ≤ q → q ≠ oJ → q ≠ oD → gF G q) {Rel : Nat → Mem → Mem → Prop} {i : Nat} (hi5 : i < 512) {x5 : Int32} (hi0 : vp_in x5 L) (hi : ∀ k : Nat, k < 7 → vp_in (x5 + Int32.ofNat k) L) {cells slots : Nat} (hc1 : cells + 3 ≤ 603072) (hc2 : slots + 18 ≤ 7202922) (hsim : Sim_give Rel) (K : ∀ (x y : Mem) (H : Heap) (locs : List Loc) (ls : Array Slot) (vj : Int64) (vd : UInt64), Rel (i + 1) x y → Wh G x y H → Oh G oJ oD vj vd H → va_S (LA s) s.heap H locs → lv_has ls 9 [(0, .ref b), (1, .ref (gA G 14 0 0)), (2, .ref (gA G 40 0 0)), (3, .ref oJ), (4, .ref oD), (5, .int x5)] → W p l e room_1 s m args below meth c H locs (cells + 3) (slots + 18) Q (F0 m 1824 ls [])) : ∀ (x y : Mem) (H : Heap) (locs : List Loc) (ls : Array Slot) (vj : Int64) (vd : UInt64), Rel i x y → Wh G x y H → Oh G oJ oD vj vd H → va_S (LA s) s.heap H locs → lv_has ls 9 [(0, .ref b), (1, .ref (gA G 14 0 0)), (2, .ref (gA G 40 0 0)), (3, .ref oJ), (4, .ref oD), (5, .int x5)] → W p l e room_1 s m args below meth c H locs cells slots Q (F0 m 667 ls []) := by
  intro x y H locs ls vj vd hR hW hO hS hl
  refine va_forget (fun q hq => hS.2.2 q hq) ?_
  replace hS := LS_nil hS
  have hbA : ¬ LA s b := Nat.not_le.mpr hbl
  have hG : ∀ q, gF G q → s.heap.size ≤ q := fun q h => hA0 q (Or.inl h)
  obtain ⟨cd, v, z, b9, w, h1, h2, hcd, hT, hv, hR2⟩ := hsim i x y ((xs (x5 + (1 : Int32)).toNatClampNeg)) ((xs (x5 + (2 : Int32)).toNatClampNeg)) ((xs (x5 + (3 : Int32)).toNatClampNeg)) ((xs (x5 + (4 : Int32)).toNatClampNeg)) ((xs (x5 + (5 : Int32)).toNatClampNeg)) ((xs (x5 + (6 : Int32)).toNatClampNeg)) hi5 hR
  refine lv_aload_n hx hb dL_law_667 rfl (lv_at hl 1 rfl) ?_
  refine lv_aload_n hx hb dL_law_668 rfl (lv_at hl 0 rfl) ?_
  refine lv_iload hx hb dL_law_669 (lv_at hl 5 rfl) ?_
  refine lv_iconst (v := (1 : Int32)) hx hb dL_law_671 (by decide) ?_
  refine lv_iadd hx hb dL_law_672 ?_
  refine va_sld hx hb hX hbl hbA hS (hi 1 (by decide)) dL_law_673 ?_
  refine lv_aload_n hx hb dL_law_674 rfl (lv_at hl 0 rfl) ?_
  refine lv_iload hx hb dL_law_675 (lv_at hl 5 rfl) ?_
  refine lv_iconst (v := (2 : Int32)) hx hb dL_law_677 (by decide) ?_
  refine lv_iadd hx hb dL_law_678 ?_
  refine va_sld hx hb hX hbl hbA hS (hi 2 (by decide)) dL_law_679 ?_
  refine lv_aload_n hx hb dL_law_680 rfl (lv_at hl 0 rfl) ?_
  refine lv_iload hx hb dL_law_681 (lv_at hl 5 rfl) ?_
  refine lv_iconst (v := (3 : Int32)) hx hb dL_law_683 (by decide) ?_
  refine lv_iadd hx hb dL_law_684 ?_
  refine va_sld hx hb hX hbl hbA hS (hi 3 (by decide)) dL_law_685 ?_
  refine lv_aload_n hx hb dL_law_686 rfl (lv_at hl 0 rfl) ?_
  refine lv_iload hx hb dL_law_687 (lv_at hl 5 rfl) ?_
  refine lv_iconst (v := (4 : Int32)) hx hb dL_law_689 (by decide) ?_
  refine lv_iadd hx hb dL_law_690 ?_
  refine va_sld hx hb hX hbl hbA hS (hi 4 (by decide)) dL_law_691 ?_
  refine lv_aload_n hx hb dL_law_692 rfl (lv_at hl 0 rfl) ?_
  refine lv_iload hx hb dL_law_693 (lv_at hl 5 rfl) ?_
  refine lv_iconst (v := (5 : Int32)) hx hb dL_law_695 (by decide) ?_
  refine lv_iadd hx hb dL_law_696 ?_
  refine va_sld hx hb hX hbl hbA hS (hi 5 (by decide)) dL_law_697 ?_
  refine lv_aload_n hx hb dL_law_698 rfl (lv_at hl 0 rfl) ?_
  refine lv_iload hx hb dL_law_699 (lv_at hl 5 rfl) ?_
  refine lv_bipush (v := (6 : Int32)) hx hb dL_law_701 (by decide) ?_
  refine lv_iadd hx hb dL_law_703 ?_
  refine va_sld hx hb hX hbl hbA hS (hi 6 (by decide)) dL_law_704 ?_
  refine lv_aload_n hx hb dL_law_705 rfl (lv_at hl 3 rfl) ?_
  refine kw_give hx hb hml hown htg hst hXt (hZ0.law hS) (fun q hq => hGA q (Nat.le_trans hS.1 hq) (fun e9 => absurd hO.lt.1 (by rw [← e9]; omega)) (fun e9 => absurd hO.lt.2 (by rw [← e9]; omega))) hK hW hO hw hS hA0 h1 hcd q528 hl.1 (Nat.le_of_ble_eq_true rfl) (Nat.le_of_ble_eq_true rfl) (Nat.le_of_ble_eq_true rfl) ⟨hc1, hc2⟩ dL_law_706 (fun H1 locs1 hW1 hO1 hS1 hk1 hz1 => ?_)
  refine va_forget (fun q hq => hS1.2.2 q hq) ?_
  replace hS := LS_nil hS1
  replace hW := hW1
  replace hO := hO1
  refine lv_istore (lv' := [(6, .int (kO_give cd)), (0, .ref b), (1, .ref (gA G 14 0 0)), (2, .ref (gA G 40 0 0)), (3, .ref oJ), (4, .ref oD), (5, .int x5)]) hx hb dL_law_709 hl (by decide) rfl (fun ls hl => ?_)
  refine lv_aload_n hx hb dL_law_711 rfl (lv_at hl 3 rfl) ?_
  refine lv_aload_n hx hb dL_law_712 rfl (lv_at hl 1 rfl) ?_
  refine lv_iload hx hb dL_law_713 (lv_at hl 6 rfl) ?_
  refine lv_iconst (v := (1 : Int32)) hx hb dL_law_715 (by decide) ?_
  refine lv_iadd hx hb dL_law_716 ?_
  refine va_sld hx hb hX hbl hbA hS (hi 1 (by decide)) dL_law_717 ?_
  refine lv_aload_n hx hb dL_law_718 rfl (lv_at hl 1 rfl) ?_
  refine lv_iload hx hb dL_law_719 (lv_at hl 6 rfl) ?_
  refine lv_iconst (v := (2 : Int32)) hx hb dL_law_721 (by decide) ?_
  refine lv_iadd hx hb dL_law_722 ?_
  refine va_sld hx hb hX hbl hbA hS (hi 2 (by decide)) dL_law_723 ?_
  refine lv_aload_n hx hb dL_law_724 rfl (lv_at hl 1 rfl) ?_
  refine lv_iload hx hb dL_law_725 (lv_at hl 6 rfl) ?_
  refine lv_iconst (v := (3 : Int32)) hx hb dL_law_727 (by decide) ?_
  refine lv_iadd hx hb dL_law_728 ?_
  refine va_sld hx hb hX hbl hbA hS (hi 3 (by decide)) dL_law_729 ?_
  refine lv_aload_n hx hb dL_law_730 rfl (lv_at hl 1 rfl) ?_
  refine lv_iload hx hb dL_law_731 (lv_at hl 6 rfl) ?_
  refine lv_iconst (v := (4 : Int32)) hx hb dL_law_733 (by decide) ?_
  refine lv_iadd hx hb dL_law_734 ?_
  refine va_sld hx hb hX hbl hbA hS (hi 4 (by decide)) dL_law_735 ?_
  refine lv_aload_n hx hb dL_law_736 rfl (lv_at hl 1 rfl) ?_
  refine lv_iload hx hb dL_law_737 (lv_at hl 6 rfl) ?_
  refine lv_iconst (v := (5 : Int32)) hx hb dL_law_739 (by decide) ?_
  refine lv_iadd hx hb dL_law_740 ?_
  refine va_sld hx hb hX hbl hbA hS (hi 5 (by decide)) dL_law_741 ?_
  refine lv_aload_n hx hb dL_law_742 rfl (lv_at hl 1 rfl) ?_
  refine lv_iload hx hb dL_law_743 (lv_at hl 6 rfl) ?_
  refine lv_bipush (v := (6 : Int32)) hx hb dL_law_745 (by decide) ?_
  refine lv_iadd hx hb dL_law_747 ?_
  refine va_sld hx hb hX hbl hbA hS (hi 6 (by decide)) dL_law_748 ?_
  refine k_X12_give hx hb hml hown htg hK hW (va_S.rf (A := gF G)) h2 q565 hl.1 (Nat.le_of_ble_eq_true rfl) (Nat.le_of_ble_eq_true rfl) (Nat.le_of_ble_eq_true rfl) ⟨hc1, hc2⟩ dL_law_749 (fun H1 locs1 hW1 hS1 => ?_)
  replace hO := hO.call hw hS1
  replace hS := LS_step hS hS1 hG
  refine va_forget (fun q hq => hS.2.2 q hq) ?_
  replace hS := LS_nil hS
  replace hW := hW1
  refine lv_istore (lv' := [(7, .int b9), (6, .int (kO_give cd)), (0, .ref b), (1, .ref (gA G 14 0 0)), (2, .ref (gA G 40 0 0)), (3, .ref oJ), (4, .ref oD), (5, .int x5)]) hx hb dL_law_752 hl (by decide) rfl (fun ls hl => ?_)
  refine lv_aload_n hx hb dL_law_754 rfl (lv_at hl 4 rfl) ?_
  refine k_X12_thrown hx hb hml hown htg hK hW (va_S.rf (A := gF G)) (show m_X12_thrown w = some (w 40 0 0 0) from rfl) q380 hl.1 (Nat.le_of_ble_eq_true rfl) (Nat.le_of_ble_eq_true rfl) (Nat.le_of_ble_eq_true rfl) ⟨hc1, hc2⟩ dL_law_755 (fun H1 locs1 hW1 hS1 => ?_)
  replace hO := hO.call hw hS1
  replace hS := LS_step hS hS1 hG
  refine va_forget (fun q hq => hS.2.2 q hq) ?_
  replace hS := LS_nil hS
  replace hW := hW1
  refine lv_iload hx hb dL_law_758 (lv_at hl 1 rfl) ?_
  refine lv_icmp_eq (tgt := 765) hx hb dL_law_760 (by decide) (fun _ => ?_) (fun c9 => absurd hT c9)
  refine lv_iload hx hb dL_law_765 (lv_at hl 1 rfl) ?_
  refine lv_if_ne (tgt := 782) hx hb dL_law_767 (by decide) (fun _ => ?_) (fun c9 => ?_)
  · refine lv_goto (tgt := 1824) hx hb dL_law_782 (by decide) ?_
    exact K z w _ _ ls _ _ hR2 hW hO hS (lv_sub hl [2, 3, 4, 5, 6, 7] rfl)
  have h09 : cd = 0 := by
    rcases hcd with rfl | rfl | rfl | rfl | rfl
    · rfl
    · exact absurd c9 (by decide)
    · exact absurd c9 (by decide)
    · exact absurd c9 (by decide)
    · exact absurd c9 (by decide)
  subst h09
  replace hv := hv rfl
  subst hv
  rw [if_pos rfl] at hO
  refine lv_aload_n hx hb dL_law_770 rfl (lv_at hl 5 rfl) ?_
  refine lv_iconst (v := (0 : Int32)) hx hb dL_law_771 (by decide) ?_
  refine ol_J hx hb hK hO dL_law_772 ?_
  refine lv_iload hx hb dL_law_773 (lv_at hl 0 rfl) ?_
  refine lv_i2l (v := b9.toInt64) hx hb dL_law_775 rfl ?_
  refine W.lcmp hx hb dL_law_776 ?_
  rw [lg_self]
  refine lv_if_eq (tgt := 782) hx hb dL_law_777 (by decide) (fun _ => ?_) (fun c7 => absurd rfl c7)
  refine lv_goto (tgt := 1824) hx hb dL_law_782 (by decide) ?_
  exact K z w _ _ ls _ _ hR2 hW hO hS (lv_sub hl [2, 3, 4, 5, 6, 7] rfl)
def Sim_withdraw (Rel : Nat → Mem → Mem → Prop) : Prop := ∀ (i : Nat) (x y : Mem) (p0 : Int32) , i < 512 → Rel i x y → ∃ (cd : Nat) (v : Int32) (z : Mem) (b : Int32) (w : Mem), m_X11_withdraw p0 x = some (cd, v, z) ∧ m_X12_withdraw p0 y = some (b, w) ∧ (cd = 0 ∨ cd = 1 ∨ cd = 5) ∧ w 40 0 0 0 = kO_withdraw cd ∧ (cd = 0 → b = v) ∧ Rel (i + 1) z w
set_option maxHeartbeats 4000000 in
set_option maxRecDepth 100000 in
theorem lc_withdraw {p : Program} {l : Launch} {e : Env} {s : State} {m : MethodId} {args : Array Value} {below : List Frame} {meth : Method} {c : Code} {Q : State → Prop} (hx : p.tables.exec = Jvm.exec) (hb : c.code = cL_law) (hml : c.maxLocals = 9) (hown : s.vm.findClass RL = some m.cls) (htg : ∀ w ∈ wsG, w.before args s = true) (hst : l.stackTraces = false) {G : Geo} (hXt : Xt s) (hK : Kt G s) (hZ0 : Zt G s s.heap) {b L : Nat} {xs : Nat → Int32} (hX : va_X b L xs s s.heap) (hbl : b < s.heap.size) {oJ oD : Nat} (hw : Ow G oJ oD) (hA0 : ∀ q, gW G oJ oD q → s.heap.size ≤ q) (hGA : ∀ q, s.heap.size ≤ q → q ≠ oJ → q ≠ oD → gF G q) {Rel : Nat → Mem → Mem → Prop} {i : Nat} (hi5 : i < 512) {x5 : Int32} (hi0 : vp_in x5 L) (hi : ∀ k : Nat, k < 7 → vp_in (x5 + Int32.ofNat k) L) {cells slots : Nat} (hc1 : cells + 3 ≤ 603072) (hc2 : slots + 18 ≤ 7202922) (hsim : Sim_withdraw Rel) (K : ∀ (x y : Mem) (H : Heap) (locs : List Loc) (ls : Array Slot) (vj : Int64) (vd : UInt64), Rel (i + 1) x y → Wh G x y H → Oh G oJ oD vj vd H → va_S (LA s) s.heap H locs → lv_has ls 9 [(0, .ref b), (1, .ref (gA G 14 0 0)), (2, .ref (gA G 40 0 0)), (3, .ref oJ), (4, .ref oD), (5, .int x5)] → W p l e room_1 s m args below meth c H locs (cells + 3) (slots + 18) Q (F0 m 1824 ls [])) : ∀ (x y : Mem) (H : Heap) (locs : List Loc) (ls : Array Slot) (vj : Int64) (vd : UInt64), Rel i x y → Wh G x y H → Oh G oJ oD vj vd H → va_S (LA s) s.heap H locs → lv_has ls 9 [(0, .ref b), (1, .ref (gA G 14 0 0)), (2, .ref (gA G 40 0 0)), (3, .ref oJ), (4, .ref oD), (5, .int x5)] → W p l e room_1 s m args below meth c H locs cells slots Q (F0 m 785 ls []) := by
  intro x y H locs ls vj vd hR hW hO hS hl
  refine va_forget (fun q hq => hS.2.2 q hq) ?_
  replace hS := LS_nil hS
  have hbA : ¬ LA s b := Nat.not_le.mpr hbl
  have hG : ∀ q, gF G q → s.heap.size ≤ q := fun q h => hA0 q (Or.inl h)
  obtain ⟨cd, v, z, b9, w, h1, h2, hcd, hT, hv, hR2⟩ := hsim i x y ((xs (x5 + (1 : Int32)).toNatClampNeg)) hi5 hR
  refine lv_aload_n hx hb dL_law_785 rfl (lv_at hl 1 rfl) ?_
  refine lv_aload_n hx hb dL_law_786 rfl (lv_at hl 0 rfl) ?_
  refine lv_iload hx hb dL_law_787 (lv_at hl 5 rfl) ?_
  refine lv_iconst (v := (1 : Int32)) hx hb dL_law_789 (by decide) ?_
  refine lv_iadd hx hb dL_law_790 ?_
  refine va_sld hx hb hX hbl hbA hS (hi 1 (by decide)) dL_law_791 ?_
  refine lv_aload_n hx hb dL_law_792 rfl (lv_at hl 3 rfl) ?_
  refine kw_withdraw hx hb hml hown htg hst hXt (hZ0.law hS) (fun q hq => hGA q (Nat.le_trans hS.1 hq) (fun e9 => absurd hO.lt.1 (by rw [← e9]; omega)) (fun e9 => absurd hO.lt.2 (by rw [← e9]; omega))) hK hW hO hw hS hA0 h1 hcd q583 hl.1 (Nat.le_of_ble_eq_true rfl) (Nat.le_of_ble_eq_true rfl) (Nat.le_of_ble_eq_true rfl) ⟨hc1, hc2⟩ dL_law_793 (fun H1 locs1 hW1 hO1 hS1 hk1 hz1 => ?_)
  refine va_forget (fun q hq => hS1.2.2 q hq) ?_
  replace hS := LS_nil hS1
  replace hW := hW1
  replace hO := hO1
  refine lv_istore (lv' := [(6, .int (kO_withdraw cd)), (0, .ref b), (1, .ref (gA G 14 0 0)), (2, .ref (gA G 40 0 0)), (3, .ref oJ), (4, .ref oD), (5, .int x5)]) hx hb dL_law_796 hl (by decide) rfl (fun ls hl => ?_)
  refine lv_aload_n hx hb dL_law_798 rfl (lv_at hl 3 rfl) ?_
  refine lv_aload_n hx hb dL_law_799 rfl (lv_at hl 1 rfl) ?_
  refine lv_iload hx hb dL_law_800 (lv_at hl 6 rfl) ?_
  refine lv_iconst (v := (1 : Int32)) hx hb dL_law_802 (by decide) ?_
  refine lv_iadd hx hb dL_law_803 ?_
  refine va_sld hx hb hX hbl hbA hS (hi 1 (by decide)) dL_law_804 ?_
  refine k_X12_withdraw hx hb hml hown htg hK hW (va_S.rf (A := gF G)) h2 q603 hl.1 (Nat.le_of_ble_eq_true rfl) (Nat.le_of_ble_eq_true rfl) (Nat.le_of_ble_eq_true rfl) ⟨hc1, hc2⟩ dL_law_805 (fun H1 locs1 hW1 hS1 => ?_)
  replace hO := hO.call hw hS1
  replace hS := LS_step hS hS1 hG
  refine va_forget (fun q hq => hS.2.2 q hq) ?_
  replace hS := LS_nil hS
  replace hW := hW1
  refine lv_istore (lv' := [(7, .int b9), (6, .int (kO_withdraw cd)), (0, .ref b), (1, .ref (gA G 14 0 0)), (2, .ref (gA G 40 0 0)), (3, .ref oJ), (4, .ref oD), (5, .int x5)]) hx hb dL_law_808 hl (by decide) rfl (fun ls hl => ?_)
  refine lv_aload_n hx hb dL_law_810 rfl (lv_at hl 4 rfl) ?_
  refine k_X12_thrown hx hb hml hown htg hK hW (va_S.rf (A := gF G)) (show m_X12_thrown w = some (w 40 0 0 0) from rfl) q380 hl.1 (Nat.le_of_ble_eq_true rfl) (Nat.le_of_ble_eq_true rfl) (Nat.le_of_ble_eq_true rfl) ⟨hc1, hc2⟩ dL_law_811 (fun H1 locs1 hW1 hS1 => ?_)
  replace hO := hO.call hw hS1
  replace hS := LS_step hS hS1 hG
  refine va_forget (fun q hq => hS.2.2 q hq) ?_
  replace hS := LS_nil hS
  replace hW := hW1
  refine lv_iload hx hb dL_law_814 (lv_at hl 1 rfl) ?_
  refine lv_icmp_eq (tgt := 821) hx hb dL_law_816 (by decide) (fun _ => ?_) (fun c9 => absurd hT c9)
  refine lv_iload hx hb dL_law_821 (lv_at hl 1 rfl) ?_
  refine lv_if_ne (tgt := 838) hx hb dL_law_823 (by decide) (fun _ => ?_) (fun c9 => ?_)
  · refine lv_goto (tgt := 1824) hx hb dL_law_838 (by decide) ?_
    exact K z w _ _ ls _ _ hR2 hW hO hS (lv_sub hl [2, 3, 4, 5, 6, 7] rfl)
  have h09 : cd = 0 := by
    rcases hcd with rfl | rfl | rfl
    · rfl
    · exact absurd c9 (by decide)
    · exact absurd c9 (by decide)
  subst h09
  replace hv := hv rfl
  subst hv
  rw [if_pos rfl] at hO
  refine lv_aload_n hx hb dL_law_826 rfl (lv_at hl 5 rfl) ?_
  refine lv_iconst (v := (0 : Int32)) hx hb dL_law_827 (by decide) ?_
  refine ol_J hx hb hK hO dL_law_828 ?_
  refine lv_iload hx hb dL_law_829 (lv_at hl 0 rfl) ?_
  refine lv_i2l (v := b9.toInt64) hx hb dL_law_831 rfl ?_
  refine W.lcmp hx hb dL_law_832 ?_
  rw [lg_self]
  refine lv_if_eq (tgt := 838) hx hb dL_law_833 (by decide) (fun _ => ?_) (fun c7 => absurd rfl c7)
  refine lv_goto (tgt := 1824) hx hb dL_law_838 (by decide) ?_
  exact K z w _ _ ls _ _ hR2 hW hO hS (lv_sub hl [2, 3, 4, 5, 6, 7] rfl)
def Sim_job (Rel : Nat → Mem → Mem → Prop) : Prop := ∀ (i : Nat) (x y : Mem) (p0 p1 : Int32) , i < 512 → Rel i x y → ∃ (cd : Nat) (v : Int32) (z : Mem) (b : Int32) (w : Mem), m_X11_job p0 p1 x = some (cd, v, z) ∧ m_X12_job p0 p1 y = some (b, w) ∧ (cd = 0 ∨ cd = 1 ∨ cd = 2) ∧ w 40 0 0 0 = kO_job cd ∧ (cd = 0 → b = v) ∧ Rel (i + 1) z w
set_option maxHeartbeats 4000000 in
set_option maxRecDepth 100000 in
theorem lc_job {p : Program} {l : Launch} {e : Env} {s : State} {m : MethodId} {args : Array Value} {below : List Frame} {meth : Method} {c : Code} {Q : State → Prop} (hx : p.tables.exec = Jvm.exec) (hb : c.code = cL_law) (hml : c.maxLocals = 9) (hown : s.vm.findClass RL = some m.cls) (htg : ∀ w ∈ wsG, w.before args s = true) (hst : l.stackTraces = false) {G : Geo} (hXt : Xt s) (hK : Kt G s) (hZ0 : Zt G s s.heap) {b L : Nat} {xs : Nat → Int32} (hX : va_X b L xs s s.heap) (hbl : b < s.heap.size) {oJ oD : Nat} (hw : Ow G oJ oD) (hA0 : ∀ q, gW G oJ oD q → s.heap.size ≤ q) (hGA : ∀ q, s.heap.size ≤ q → q ≠ oJ → q ≠ oD → gF G q) {Rel : Nat → Mem → Mem → Prop} {i : Nat} (hi5 : i < 512) {x5 : Int32} (hi0 : vp_in x5 L) (hi : ∀ k : Nat, k < 7 → vp_in (x5 + Int32.ofNat k) L) {cells slots : Nat} (hc1 : cells + 3 ≤ 603072) (hc2 : slots + 18 ≤ 7202922) (hsim : Sim_job Rel) (K : ∀ (x y : Mem) (H : Heap) (locs : List Loc) (ls : Array Slot) (vj : Int64) (vd : UInt64), Rel (i + 1) x y → Wh G x y H → Oh G oJ oD vj vd H → va_S (LA s) s.heap H locs → lv_has ls 9 [(0, .ref b), (1, .ref (gA G 14 0 0)), (2, .ref (gA G 40 0 0)), (3, .ref oJ), (4, .ref oD), (5, .int x5)] → W p l e room_1 s m args below meth c H locs (cells + 3) (slots + 18) Q (F0 m 1824 ls [])) : ∀ (x y : Mem) (H : Heap) (locs : List Loc) (ls : Array Slot) (vj : Int64) (vd : UInt64), Rel i x y → Wh G x y H → Oh G oJ oD vj vd H → va_S (LA s) s.heap H locs → lv_has ls 9 [(0, .ref b), (1, .ref (gA G 14 0 0)), (2, .ref (gA G 40 0 0)), (3, .ref oJ), (4, .ref oD), (5, .int x5)] → W p l e room_1 s m args below meth c H locs cells slots Q (F0 m 841 ls []) := by
  intro x y H locs ls vj vd hR hW hO hS hl
  refine va_forget (fun q hq => hS.2.2 q hq) ?_
  replace hS := LS_nil hS
  have hbA : ¬ LA s b := Nat.not_le.mpr hbl
  have hG : ∀ q, gF G q → s.heap.size ≤ q := fun q h => hA0 q (Or.inl h)
  obtain ⟨cd, v, z, b9, w, h1, h2, hcd, hT, hv, hR2⟩ := hsim i x y ((xs (x5 + (1 : Int32)).toNatClampNeg)) ((xs (x5 + (2 : Int32)).toNatClampNeg)) hi5 hR
  refine lv_aload_n hx hb dL_law_841 rfl (lv_at hl 1 rfl) ?_
  refine lv_aload_n hx hb dL_law_842 rfl (lv_at hl 0 rfl) ?_
  refine lv_iload hx hb dL_law_843 (lv_at hl 5 rfl) ?_
  refine lv_iconst (v := (1 : Int32)) hx hb dL_law_845 (by decide) ?_
  refine lv_iadd hx hb dL_law_846 ?_
  refine va_sld hx hb hX hbl hbA hS (hi 1 (by decide)) dL_law_847 ?_
  refine lv_aload_n hx hb dL_law_848 rfl (lv_at hl 0 rfl) ?_
  refine lv_iload hx hb dL_law_849 (lv_at hl 5 rfl) ?_
  refine lv_iconst (v := (2 : Int32)) hx hb dL_law_851 (by decide) ?_
  refine lv_iadd hx hb dL_law_852 ?_
  refine va_sld hx hb hX hbl hbA hS (hi 2 (by decide)) dL_law_853 ?_
  refine lv_aload_n hx hb dL_law_854 rfl (lv_at hl 3 rfl) ?_
  refine kw_job hx hb hml hown htg hst hXt (hZ0.law hS) (fun q hq => hGA q (Nat.le_trans hS.1 hq) (fun e9 => absurd hO.lt.1 (by rw [← e9]; omega)) (fun e9 => absurd hO.lt.2 (by rw [← e9]; omega))) hK hW hO hw hS hA0 h1 hcd q607 hl.1 (Nat.le_of_ble_eq_true rfl) (Nat.le_of_ble_eq_true rfl) (Nat.le_of_ble_eq_true rfl) ⟨hc1, hc2⟩ dL_law_855 (fun H1 locs1 hW1 hO1 hS1 hk1 hz1 => ?_)
  refine va_forget (fun q hq => hS1.2.2 q hq) ?_
  replace hS := LS_nil hS1
  replace hW := hW1
  replace hO := hO1
  refine lv_istore (lv' := [(6, .int (kO_job cd)), (0, .ref b), (1, .ref (gA G 14 0 0)), (2, .ref (gA G 40 0 0)), (3, .ref oJ), (4, .ref oD), (5, .int x5)]) hx hb dL_law_858 hl (by decide) rfl (fun ls hl => ?_)
  refine lv_aload_n hx hb dL_law_860 rfl (lv_at hl 3 rfl) ?_
  refine lv_aload_n hx hb dL_law_861 rfl (lv_at hl 1 rfl) ?_
  refine lv_iload hx hb dL_law_862 (lv_at hl 6 rfl) ?_
  refine lv_iconst (v := (1 : Int32)) hx hb dL_law_864 (by decide) ?_
  refine lv_iadd hx hb dL_law_865 ?_
  refine va_sld hx hb hX hbl hbA hS (hi 1 (by decide)) dL_law_866 ?_
  refine lv_aload_n hx hb dL_law_867 rfl (lv_at hl 1 rfl) ?_
  refine lv_iload hx hb dL_law_868 (lv_at hl 6 rfl) ?_
  refine lv_iconst (v := (2 : Int32)) hx hb dL_law_870 (by decide) ?_
  refine lv_iadd hx hb dL_law_871 ?_
  refine va_sld hx hb hX hbl hbA hS (hi 2 (by decide)) dL_law_872 ?_
  refine k_X12_job hx hb hml hown htg hK hW (va_S.rf (A := gF G)) h2 q624 hl.1 (Nat.le_of_ble_eq_true rfl) (Nat.le_of_ble_eq_true rfl) (Nat.le_of_ble_eq_true rfl) ⟨hc1, hc2⟩ dL_law_873 (fun H1 locs1 hW1 hS1 => ?_)
  replace hO := hO.call hw hS1
  replace hS := LS_step hS hS1 hG
  refine va_forget (fun q hq => hS.2.2 q hq) ?_
  replace hS := LS_nil hS
  replace hW := hW1
  refine lv_istore (lv' := [(7, .int b9), (6, .int (kO_job cd)), (0, .ref b), (1, .ref (gA G 14 0 0)), (2, .ref (gA G 40 0 0)), (3, .ref oJ), (4, .ref oD), (5, .int x5)]) hx hb dL_law_876 hl (by decide) rfl (fun ls hl => ?_)
  refine lv_aload_n hx hb dL_law_878 rfl (lv_at hl 4 rfl) ?_
  refine k_X12_thrown hx hb hml hown htg hK hW (va_S.rf (A := gF G)) (show m_X12_thrown w = some (w 40 0 0 0) from rfl) q380 hl.1 (Nat.le_of_ble_eq_true rfl) (Nat.le_of_ble_eq_true rfl) (Nat.le_of_ble_eq_true rfl) ⟨hc1, hc2⟩ dL_law_879 (fun H1 locs1 hW1 hS1 => ?_)
  replace hO := hO.call hw hS1
  replace hS := LS_step hS hS1 hG
  refine va_forget (fun q hq => hS.2.2 q hq) ?_
  replace hS := LS_nil hS
  replace hW := hW1
  refine lv_iload hx hb dL_law_882 (lv_at hl 1 rfl) ?_
  refine lv_icmp_eq (tgt := 889) hx hb dL_law_884 (by decide) (fun _ => ?_) (fun c9 => absurd hT c9)
  refine lv_iload hx hb dL_law_889 (lv_at hl 1 rfl) ?_
  refine lv_if_ne (tgt := 906) hx hb dL_law_891 (by decide) (fun _ => ?_) (fun c9 => ?_)
  · refine lv_goto (tgt := 1824) hx hb dL_law_906 (by decide) ?_
    exact K z w _ _ ls _ _ hR2 hW hO hS (lv_sub hl [2, 3, 4, 5, 6, 7] rfl)
  have h09 : cd = 0 := by
    rcases hcd with rfl | rfl | rfl
    · rfl
    · exact absurd c9 (by decide)
    · exact absurd c9 (by decide)
  subst h09
  replace hv := hv rfl
  subst hv
  rw [if_pos rfl] at hO
  refine lv_aload_n hx hb dL_law_894 rfl (lv_at hl 5 rfl) ?_
  refine lv_iconst (v := (0 : Int32)) hx hb dL_law_895 (by decide) ?_
  refine ol_J hx hb hK hO dL_law_896 ?_
  refine lv_iload hx hb dL_law_897 (lv_at hl 0 rfl) ?_
  refine lv_i2l (v := b9.toInt64) hx hb dL_law_899 rfl ?_
  refine W.lcmp hx hb dL_law_900 ?_
  rw [lg_self]
  refine lv_if_eq (tgt := 906) hx hb dL_law_901 (by decide) (fun _ => ?_) (fun c7 => absurd rfl c7)
  refine lv_goto (tgt := 1824) hx hb dL_law_906 (by decide) ?_
  exact K z w _ _ ls _ _ hR2 hW hO hS (lv_sub hl [2, 3, 4, 5, 6, 7] rfl)
def Sim_arm (Rel : Nat → Mem → Mem → Prop) : Prop := ∀ (i : Nat) (x y : Mem) (p0 p1 : Int32) , i < 512 → Rel i x y → ∃ (cd : Nat) (v : Int32) (z : Mem) (b : Int32) (w : Mem), m_X11_arm p0 p1 x = some (cd, v, z) ∧ m_X12_arm p0 p1 y = some (b, w) ∧ (cd = 0 ∨ cd = 1 ∨ cd = 2) ∧ w 40 0 0 0 = kO_arm cd ∧ (cd = 0 → b = v) ∧ Rel (i + 1) z w
set_option maxHeartbeats 4000000 in
set_option maxRecDepth 100000 in
theorem lc_arm {p : Program} {l : Launch} {e : Env} {s : State} {m : MethodId} {args : Array Value} {below : List Frame} {meth : Method} {c : Code} {Q : State → Prop} (hx : p.tables.exec = Jvm.exec) (hb : c.code = cL_law) (hml : c.maxLocals = 9) (hown : s.vm.findClass RL = some m.cls) (htg : ∀ w ∈ wsG, w.before args s = true) (hst : l.stackTraces = false) {G : Geo} (hXt : Xt s) (hK : Kt G s) (hZ0 : Zt G s s.heap) {b L : Nat} {xs : Nat → Int32} (hX : va_X b L xs s s.heap) (hbl : b < s.heap.size) {oJ oD : Nat} (hw : Ow G oJ oD) (hA0 : ∀ q, gW G oJ oD q → s.heap.size ≤ q) (hGA : ∀ q, s.heap.size ≤ q → q ≠ oJ → q ≠ oD → gF G q) {Rel : Nat → Mem → Mem → Prop} {i : Nat} (hi5 : i < 512) {x5 : Int32} (hi0 : vp_in x5 L) (hi : ∀ k : Nat, k < 7 → vp_in (x5 + Int32.ofNat k) L) {cells slots : Nat} (hc1 : cells + 3 ≤ 603072) (hc2 : slots + 18 ≤ 7202922) (hsim : Sim_arm Rel) (K : ∀ (x y : Mem) (H : Heap) (locs : List Loc) (ls : Array Slot) (vj : Int64) (vd : UInt64), Rel (i + 1) x y → Wh G x y H → Oh G oJ oD vj vd H → va_S (LA s) s.heap H locs → lv_has ls 9 [(0, .ref b), (1, .ref (gA G 14 0 0)), (2, .ref (gA G 40 0 0)), (3, .ref oJ), (4, .ref oD), (5, .int x5)] → W p l e room_1 s m args below meth c H locs (cells + 3) (slots + 18) Q (F0 m 1824 ls [])) : ∀ (x y : Mem) (H : Heap) (locs : List Loc) (ls : Array Slot) (vj : Int64) (vd : UInt64), Rel i x y → Wh G x y H → Oh G oJ oD vj vd H → va_S (LA s) s.heap H locs → lv_has ls 9 [(0, .ref b), (1, .ref (gA G 14 0 0)), (2, .ref (gA G 40 0 0)), (3, .ref oJ), (4, .ref oD), (5, .int x5)] → W p l e room_1 s m args below meth c H locs cells slots Q (F0 m 909 ls []) := by
  intro x y H locs ls vj vd hR hW hO hS hl
  refine va_forget (fun q hq => hS.2.2 q hq) ?_
  replace hS := LS_nil hS
  have hbA : ¬ LA s b := Nat.not_le.mpr hbl
  have hG : ∀ q, gF G q → s.heap.size ≤ q := fun q h => hA0 q (Or.inl h)
  obtain ⟨cd, v, z, b9, w, h1, h2, hcd, hT, hv, hR2⟩ := hsim i x y ((xs (x5 + (1 : Int32)).toNatClampNeg)) ((xs (x5 + (2 : Int32)).toNatClampNeg)) hi5 hR
  refine lv_aload_n hx hb dL_law_909 rfl (lv_at hl 1 rfl) ?_
  refine lv_aload_n hx hb dL_law_910 rfl (lv_at hl 0 rfl) ?_
  refine lv_iload hx hb dL_law_911 (lv_at hl 5 rfl) ?_
  refine lv_iconst (v := (1 : Int32)) hx hb dL_law_913 (by decide) ?_
  refine lv_iadd hx hb dL_law_914 ?_
  refine va_sld hx hb hX hbl hbA hS (hi 1 (by decide)) dL_law_915 ?_
  refine lv_aload_n hx hb dL_law_916 rfl (lv_at hl 0 rfl) ?_
  refine lv_iload hx hb dL_law_917 (lv_at hl 5 rfl) ?_
  refine lv_iconst (v := (2 : Int32)) hx hb dL_law_919 (by decide) ?_
  refine lv_iadd hx hb dL_law_920 ?_
  refine va_sld hx hb hX hbl hbA hS (hi 2 (by decide)) dL_law_921 ?_
  refine lv_aload_n hx hb dL_law_922 rfl (lv_at hl 3 rfl) ?_
  refine kw_arm hx hb hml hown htg hst hXt (hZ0.law hS) (fun q hq => hGA q (Nat.le_trans hS.1 hq) (fun e9 => absurd hO.lt.1 (by rw [← e9]; omega)) (fun e9 => absurd hO.lt.2 (by rw [← e9]; omega))) hK hW hO hw hS hA0 h1 hcd q632 hl.1 (Nat.le_of_ble_eq_true rfl) (Nat.le_of_ble_eq_true rfl) (Nat.le_of_ble_eq_true rfl) ⟨hc1, hc2⟩ dL_law_923 (fun H1 locs1 hW1 hO1 hS1 hk1 hz1 => ?_)
  refine va_forget (fun q hq => hS1.2.2 q hq) ?_
  replace hS := LS_nil hS1
  replace hW := hW1
  replace hO := hO1
  refine lv_istore (lv' := [(6, .int (kO_arm cd)), (0, .ref b), (1, .ref (gA G 14 0 0)), (2, .ref (gA G 40 0 0)), (3, .ref oJ), (4, .ref oD), (5, .int x5)]) hx hb dL_law_926 hl (by decide) rfl (fun ls hl => ?_)
  refine lv_aload_n hx hb dL_law_928 rfl (lv_at hl 3 rfl) ?_
  refine lv_aload_n hx hb dL_law_929 rfl (lv_at hl 1 rfl) ?_
  refine lv_iload hx hb dL_law_930 (lv_at hl 6 rfl) ?_
  refine lv_iconst (v := (1 : Int32)) hx hb dL_law_932 (by decide) ?_
  refine lv_iadd hx hb dL_law_933 ?_
  refine va_sld hx hb hX hbl hbA hS (hi 1 (by decide)) dL_law_934 ?_
  refine lv_aload_n hx hb dL_law_935 rfl (lv_at hl 1 rfl) ?_
  refine lv_iload hx hb dL_law_936 (lv_at hl 6 rfl) ?_
  refine lv_iconst (v := (2 : Int32)) hx hb dL_law_938 (by decide) ?_
  refine lv_iadd hx hb dL_law_939 ?_
  refine va_sld hx hb hX hbl hbA hS (hi 2 (by decide)) dL_law_940 ?_
  refine k_X12_arm hx hb hml hown htg hK hW (va_S.rf (A := gF G)) h2 q655 hl.1 (Nat.le_of_ble_eq_true rfl) (Nat.le_of_ble_eq_true rfl) (Nat.le_of_ble_eq_true rfl) ⟨hc1, hc2⟩ dL_law_941 (fun H1 locs1 hW1 hS1 => ?_)
  replace hO := hO.call hw hS1
  replace hS := LS_step hS hS1 hG
  refine va_forget (fun q hq => hS.2.2 q hq) ?_
  replace hS := LS_nil hS
  replace hW := hW1
  refine lv_istore (lv' := [(7, .int b9), (6, .int (kO_arm cd)), (0, .ref b), (1, .ref (gA G 14 0 0)), (2, .ref (gA G 40 0 0)), (3, .ref oJ), (4, .ref oD), (5, .int x5)]) hx hb dL_law_944 hl (by decide) rfl (fun ls hl => ?_)
  refine lv_aload_n hx hb dL_law_946 rfl (lv_at hl 4 rfl) ?_
  refine k_X12_thrown hx hb hml hown htg hK hW (va_S.rf (A := gF G)) (show m_X12_thrown w = some (w 40 0 0 0) from rfl) q380 hl.1 (Nat.le_of_ble_eq_true rfl) (Nat.le_of_ble_eq_true rfl) (Nat.le_of_ble_eq_true rfl) ⟨hc1, hc2⟩ dL_law_947 (fun H1 locs1 hW1 hS1 => ?_)
  replace hO := hO.call hw hS1
  replace hS := LS_step hS hS1 hG
  refine va_forget (fun q hq => hS.2.2 q hq) ?_
  replace hS := LS_nil hS
  replace hW := hW1
  refine lv_iload hx hb dL_law_950 (lv_at hl 1 rfl) ?_
  refine lv_icmp_eq (tgt := 957) hx hb dL_law_952 (by decide) (fun _ => ?_) (fun c9 => absurd hT c9)
  refine lv_iload hx hb dL_law_957 (lv_at hl 1 rfl) ?_
  refine lv_if_ne (tgt := 974) hx hb dL_law_959 (by decide) (fun _ => ?_) (fun c9 => ?_)
  · refine lv_goto (tgt := 1824) hx hb dL_law_974 (by decide) ?_
    exact K z w _ _ ls _ _ hR2 hW hO hS (lv_sub hl [2, 3, 4, 5, 6, 7] rfl)
  have h09 : cd = 0 := by
    rcases hcd with rfl | rfl | rfl
    · rfl
    · exact absurd c9 (by decide)
    · exact absurd c9 (by decide)
  subst h09
  replace hv := hv rfl
  subst hv
  rw [if_pos rfl] at hO
  refine lv_aload_n hx hb dL_law_962 rfl (lv_at hl 5 rfl) ?_
  refine lv_iconst (v := (0 : Int32)) hx hb dL_law_963 (by decide) ?_
  refine ol_J hx hb hK hO dL_law_964 ?_
  refine lv_iload hx hb dL_law_965 (lv_at hl 0 rfl) ?_
  refine lv_i2l (v := b9.toInt64) hx hb dL_law_967 rfl ?_
  refine W.lcmp hx hb dL_law_968 ?_
  rw [lg_self]
  refine lv_if_eq (tgt := 974) hx hb dL_law_969 (by decide) (fun _ => ?_) (fun c7 => absurd rfl c7)
  refine lv_goto (tgt := 1824) hx hb dL_law_974 (by decide) ?_
  exact K z w _ _ ls _ _ hR2 hW hO hS (lv_sub hl [2, 3, 4, 5, 6, 7] rfl)
def Sim_waiting (Rel : Nat → Mem → Mem → Prop) : Prop := ∀ (i : Nat) (x y : Mem) (p0 p1 : Int32) , i < 512 → Rel i x y → ∃ (cd : Nat) (v : Int32) (z : Mem) (b : Int32) (w : Mem), m_X11_waiting p0 p1 x = some (cd, v, z) ∧ m_X12_waiting p0 p1 y = some (b, w) ∧ (cd = 0 ∨ cd = 1) ∧ w 40 0 0 0 = kO_waiting cd ∧ (cd = 0 → b = v) ∧ Rel (i + 1) z w
set_option maxHeartbeats 4000000 in
set_option maxRecDepth 100000 in
theorem lc_waiting {p : Program} {l : Launch} {e : Env} {s : State} {m : MethodId} {args : Array Value} {below : List Frame} {meth : Method} {c : Code} {Q : State → Prop} (hx : p.tables.exec = Jvm.exec) (hb : c.code = cL_law) (hml : c.maxLocals = 9) (hown : s.vm.findClass RL = some m.cls) (htg : ∀ w ∈ wsG, w.before args s = true) (hst : l.stackTraces = false) {G : Geo} (hXt : Xt s) (hK : Kt G s) (hZ0 : Zt G s s.heap) {b L : Nat} {xs : Nat → Int32} (hX : va_X b L xs s s.heap) (hbl : b < s.heap.size) {oJ oD : Nat} (hw : Ow G oJ oD) (hA0 : ∀ q, gW G oJ oD q → s.heap.size ≤ q) (hGA : ∀ q, s.heap.size ≤ q → q ≠ oJ → q ≠ oD → gF G q) {Rel : Nat → Mem → Mem → Prop} {i : Nat} (hi5 : i < 512) {x5 : Int32} (hi0 : vp_in x5 L) (hi : ∀ k : Nat, k < 7 → vp_in (x5 + Int32.ofNat k) L) {cells slots : Nat} (hc1 : cells + 3 ≤ 603072) (hc2 : slots + 18 ≤ 7202922) (hsim : Sim_waiting Rel) (K : ∀ (x y : Mem) (H : Heap) (locs : List Loc) (ls : Array Slot) (vj : Int64) (vd : UInt64), Rel (i + 1) x y → Wh G x y H → Oh G oJ oD vj vd H → va_S (LA s) s.heap H locs → lv_has ls 9 [(0, .ref b), (1, .ref (gA G 14 0 0)), (2, .ref (gA G 40 0 0)), (3, .ref oJ), (4, .ref oD), (5, .int x5)] → W p l e room_1 s m args below meth c H locs (cells + 3) (slots + 18) Q (F0 m 1824 ls [])) : ∀ (x y : Mem) (H : Heap) (locs : List Loc) (ls : Array Slot) (vj : Int64) (vd : UInt64), Rel i x y → Wh G x y H → Oh G oJ oD vj vd H → va_S (LA s) s.heap H locs → lv_has ls 9 [(0, .ref b), (1, .ref (gA G 14 0 0)), (2, .ref (gA G 40 0 0)), (3, .ref oJ), (4, .ref oD), (5, .int x5)] → W p l e room_1 s m args below meth c H locs cells slots Q (F0 m 977 ls []) := by
  intro x y H locs ls vj vd hR hW hO hS hl
  refine va_forget (fun q hq => hS.2.2 q hq) ?_
  replace hS := LS_nil hS
  have hbA : ¬ LA s b := Nat.not_le.mpr hbl
  have hG : ∀ q, gF G q → s.heap.size ≤ q := fun q h => hA0 q (Or.inl h)
  obtain ⟨cd, v, z, b9, w, h1, h2, hcd, hT, hv, hR2⟩ := hsim i x y ((xs (x5 + (1 : Int32)).toNatClampNeg)) ((xs (x5 + (2 : Int32)).toNatClampNeg)) hi5 hR
  refine lv_aload_n hx hb dL_law_977 rfl (lv_at hl 1 rfl) ?_
  refine lv_aload_n hx hb dL_law_978 rfl (lv_at hl 0 rfl) ?_
  refine lv_iload hx hb dL_law_979 (lv_at hl 5 rfl) ?_
  refine lv_iconst (v := (1 : Int32)) hx hb dL_law_981 (by decide) ?_
  refine lv_iadd hx hb dL_law_982 ?_
  refine va_sld hx hb hX hbl hbA hS (hi 1 (by decide)) dL_law_983 ?_
  refine lv_aload_n hx hb dL_law_984 rfl (lv_at hl 0 rfl) ?_
  refine lv_iload hx hb dL_law_985 (lv_at hl 5 rfl) ?_
  refine lv_iconst (v := (2 : Int32)) hx hb dL_law_987 (by decide) ?_
  refine lv_iadd hx hb dL_law_988 ?_
  refine va_sld hx hb hX hbl hbA hS (hi 2 (by decide)) dL_law_989 ?_
  refine lv_aload_n hx hb dL_law_990 rfl (lv_at hl 3 rfl) ?_
  refine kw_waiting hx hb hml hown htg hst hXt (hZ0.law hS) (fun q hq => hGA q (Nat.le_trans hS.1 hq) (fun e9 => absurd hO.lt.1 (by rw [← e9]; omega)) (fun e9 => absurd hO.lt.2 (by rw [← e9]; omega))) hK hW hO hw hS hA0 h1 hcd q659 hl.1 (Nat.le_of_ble_eq_true rfl) (Nat.le_of_ble_eq_true rfl) (Nat.le_of_ble_eq_true rfl) ⟨hc1, hc2⟩ dL_law_991 (fun H1 locs1 hW1 hO1 hS1 hk1 hz1 => ?_)
  refine va_forget (fun q hq => hS1.2.2 q hq) ?_
  replace hS := LS_nil hS1
  replace hW := hW1
  replace hO := hO1
  refine lv_istore (lv' := [(6, .int (kO_waiting cd)), (0, .ref b), (1, .ref (gA G 14 0 0)), (2, .ref (gA G 40 0 0)), (3, .ref oJ), (4, .ref oD), (5, .int x5)]) hx hb dL_law_994 hl (by decide) rfl (fun ls hl => ?_)
  refine lv_aload_n hx hb dL_law_996 rfl (lv_at hl 3 rfl) ?_
  refine lv_aload_n hx hb dL_law_997 rfl (lv_at hl 1 rfl) ?_
  refine lv_iload hx hb dL_law_998 (lv_at hl 6 rfl) ?_
  refine lv_iconst (v := (1 : Int32)) hx hb dL_law_1000 (by decide) ?_
  refine lv_iadd hx hb dL_law_1001 ?_
  refine va_sld hx hb hX hbl hbA hS (hi 1 (by decide)) dL_law_1002 ?_
  refine lv_aload_n hx hb dL_law_1003 rfl (lv_at hl 1 rfl) ?_
  refine lv_iload hx hb dL_law_1004 (lv_at hl 6 rfl) ?_
  refine lv_iconst (v := (2 : Int32)) hx hb dL_law_1006 (by decide) ?_
  refine lv_iadd hx hb dL_law_1007 ?_
  refine va_sld hx hb hX hbl hbA hS (hi 2 (by decide)) dL_law_1008 ?_
  refine k_X12_waiting hx hb hml hown htg hK hW (va_S.rf (A := gF G)) h2 q667 hl.1 (Nat.le_of_ble_eq_true rfl) (Nat.le_of_ble_eq_true rfl) (Nat.le_of_ble_eq_true rfl) ⟨hc1, hc2⟩ dL_law_1009 (fun H1 locs1 hW1 hS1 => ?_)
  replace hO := hO.call hw hS1
  replace hS := LS_step hS hS1 hG
  refine va_forget (fun q hq => hS.2.2 q hq) ?_
  replace hS := LS_nil hS
  replace hW := hW1
  refine lv_istore (lv' := [(7, .int b9), (6, .int (kO_waiting cd)), (0, .ref b), (1, .ref (gA G 14 0 0)), (2, .ref (gA G 40 0 0)), (3, .ref oJ), (4, .ref oD), (5, .int x5)]) hx hb dL_law_1012 hl (by decide) rfl (fun ls hl => ?_)
  refine lv_aload_n hx hb dL_law_1014 rfl (lv_at hl 4 rfl) ?_
  refine k_X12_thrown hx hb hml hown htg hK hW (va_S.rf (A := gF G)) (show m_X12_thrown w = some (w 40 0 0 0) from rfl) q380 hl.1 (Nat.le_of_ble_eq_true rfl) (Nat.le_of_ble_eq_true rfl) (Nat.le_of_ble_eq_true rfl) ⟨hc1, hc2⟩ dL_law_1015 (fun H1 locs1 hW1 hS1 => ?_)
  replace hO := hO.call hw hS1
  replace hS := LS_step hS hS1 hG
  refine va_forget (fun q hq => hS.2.2 q hq) ?_
  replace hS := LS_nil hS
  replace hW := hW1
  refine lv_iload hx hb dL_law_1018 (lv_at hl 1 rfl) ?_
  refine lv_icmp_eq (tgt := 1025) hx hb dL_law_1020 (by decide) (fun _ => ?_) (fun c9 => absurd hT c9)
  refine lv_iload hx hb dL_law_1025 (lv_at hl 1 rfl) ?_
  refine lv_if_ne (tgt := 1042) hx hb dL_law_1027 (by decide) (fun _ => ?_) (fun c9 => ?_)
  · refine lv_goto (tgt := 1824) hx hb dL_law_1042 (by decide) ?_
    exact K z w _ _ ls _ _ hR2 hW hO hS (lv_sub hl [2, 3, 4, 5, 6, 7] rfl)
  have h09 : cd = 0 := by
    rcases hcd with rfl | rfl
    · rfl
    · exact absurd c9 (by decide)
  subst h09
  replace hv := hv rfl
  subst hv
  rw [if_pos rfl] at hO
  refine lv_aload_n hx hb dL_law_1030 rfl (lv_at hl 5 rfl) ?_
  refine lv_iconst (v := (0 : Int32)) hx hb dL_law_1031 (by decide) ?_
  refine ol_J hx hb hK hO dL_law_1032 ?_
  refine lv_iload hx hb dL_law_1033 (lv_at hl 0 rfl) ?_
  refine lv_i2l (v := b9.toInt64) hx hb dL_law_1035 rfl ?_
  refine W.lcmp hx hb dL_law_1036 ?_
  rw [lg_self]
  refine lv_if_eq (tgt := 1042) hx hb dL_law_1037 (by decide) (fun _ => ?_) (fun c7 => absurd rfl c7)
  refine lv_goto (tgt := 1824) hx hb dL_law_1042 (by decide) ?_
  exact K z w _ _ ls _ _ hR2 hW hO hS (lv_sub hl [2, 3, 4, 5, 6, 7] rfl)
def Sim_tick (Rel : Nat → Mem → Mem → Prop) : Prop := ∀ (i : Nat) (x y : Mem) (p0 : Int32) , i < 512 → Rel i x y → ∃ (cd : Nat) (v : Int32) (z : Mem) (b : Int32) (w : Mem), m_X11_tick p0 x = some (cd, v, z) ∧ m_X12_tick p0 y = some (b, w) ∧ (cd = 0 ∨ cd = 2) ∧ w 40 0 0 0 = kO_tick cd ∧ (cd = 0 → b = v) ∧ Rel (i + 1) z w
set_option maxHeartbeats 4000000 in
set_option maxRecDepth 100000 in
theorem lc_tick {p : Program} {l : Launch} {e : Env} {s : State} {m : MethodId} {args : Array Value} {below : List Frame} {meth : Method} {c : Code} {Q : State → Prop} (hx : p.tables.exec = Jvm.exec) (hb : c.code = cL_law) (hml : c.maxLocals = 9) (hown : s.vm.findClass RL = some m.cls) (htg : ∀ w ∈ wsG, w.before args s = true) (hst : l.stackTraces = false) {G : Geo} (hXt : Xt s) (hK : Kt G s) (hZ0 : Zt G s s.heap) {b L : Nat} {xs : Nat → Int32} (hX : va_X b L xs s s.heap) (hbl : b < s.heap.size) {oJ oD : Nat} (hw : Ow G oJ oD) (hA0 : ∀ q, gW G oJ oD q → s.heap.size ≤ q) (hGA : ∀ q, s.heap.size ≤ q → q ≠ oJ → q ≠ oD → gF G q) {Rel : Nat → Mem → Mem → Prop} {i : Nat} (hi5 : i < 512) {x5 : Int32} (hi0 : vp_in x5 L) (hi : ∀ k : Nat, k < 7 → vp_in (x5 + Int32.ofNat k) L) {cells slots : Nat} (hc1 : cells + 3 ≤ 603072) (hc2 : slots + 18 ≤ 7202922) (hsim : Sim_tick Rel) (K : ∀ (x y : Mem) (H : Heap) (locs : List Loc) (ls : Array Slot) (vj : Int64) (vd : UInt64), Rel (i + 1) x y → Wh G x y H → Oh G oJ oD vj vd H → va_S (LA s) s.heap H locs → lv_has ls 9 [(0, .ref b), (1, .ref (gA G 14 0 0)), (2, .ref (gA G 40 0 0)), (3, .ref oJ), (4, .ref oD), (5, .int x5)] → W p l e room_1 s m args below meth c H locs (cells + 3) (slots + 18) Q (F0 m 1824 ls [])) : ∀ (x y : Mem) (H : Heap) (locs : List Loc) (ls : Array Slot) (vj : Int64) (vd : UInt64), Rel i x y → Wh G x y H → Oh G oJ oD vj vd H → va_S (LA s) s.heap H locs → lv_has ls 9 [(0, .ref b), (1, .ref (gA G 14 0 0)), (2, .ref (gA G 40 0 0)), (3, .ref oJ), (4, .ref oD), (5, .int x5)] → W p l e room_1 s m args below meth c H locs cells slots Q (F0 m 1045 ls []) := by
  intro x y H locs ls vj vd hR hW hO hS hl
  refine va_forget (fun q hq => hS.2.2 q hq) ?_
  replace hS := LS_nil hS
  have hbA : ¬ LA s b := Nat.not_le.mpr hbl
  have hG : ∀ q, gF G q → s.heap.size ≤ q := fun q h => hA0 q (Or.inl h)
  obtain ⟨cd, v, z, b9, w, h1, h2, hcd, hT, hv, hR2⟩ := hsim i x y ((xs (x5 + (1 : Int32)).toNatClampNeg)) hi5 hR
  refine lv_aload_n hx hb dL_law_1045 rfl (lv_at hl 1 rfl) ?_
  refine lv_aload_n hx hb dL_law_1046 rfl (lv_at hl 0 rfl) ?_
  refine lv_iload hx hb dL_law_1047 (lv_at hl 5 rfl) ?_
  refine lv_iconst (v := (1 : Int32)) hx hb dL_law_1049 (by decide) ?_
  refine lv_iadd hx hb dL_law_1050 ?_
  refine va_sld hx hb hX hbl hbA hS (hi 1 (by decide)) dL_law_1051 ?_
  refine lv_aload_n hx hb dL_law_1052 rfl (lv_at hl 3 rfl) ?_
  refine kw_tick hx hb hml hown htg hst hXt (hZ0.law hS) (fun q hq => hGA q (Nat.le_trans hS.1 hq) (fun e9 => absurd hO.lt.1 (by rw [← e9]; omega)) (fun e9 => absurd hO.lt.2 (by rw [← e9]; omega))) hK hW hO hw hS hA0 h1 hcd q671 hl.1 (Nat.le_of_ble_eq_true rfl) (Nat.le_of_ble_eq_true rfl) (Nat.le_of_ble_eq_true rfl) ⟨hc1, hc2⟩ dL_law_1053 (fun H1 locs1 hW1 hO1 hS1 hk1 hz1 => ?_)
  refine va_forget (fun q hq => hS1.2.2 q hq) ?_
  replace hS := LS_nil hS1
  replace hW := hW1
  replace hO := hO1
  refine lv_istore (lv' := [(6, .int (kO_tick cd)), (0, .ref b), (1, .ref (gA G 14 0 0)), (2, .ref (gA G 40 0 0)), (3, .ref oJ), (4, .ref oD), (5, .int x5)]) hx hb dL_law_1056 hl (by decide) rfl (fun ls hl => ?_)
  refine lv_aload_n hx hb dL_law_1058 rfl (lv_at hl 3 rfl) ?_
  refine lv_aload_n hx hb dL_law_1059 rfl (lv_at hl 1 rfl) ?_
  refine lv_iload hx hb dL_law_1060 (lv_at hl 6 rfl) ?_
  refine lv_iconst (v := (1 : Int32)) hx hb dL_law_1062 (by decide) ?_
  refine lv_iadd hx hb dL_law_1063 ?_
  refine va_sld hx hb hX hbl hbA hS (hi 1 (by decide)) dL_law_1064 ?_
  refine k_X12_tick hx hb hml hown htg hK hW (va_S.rf (A := gF G)) h2 q836 hl.1 (Nat.le_of_ble_eq_true rfl) (Nat.le_of_ble_eq_true rfl) (Nat.le_of_ble_eq_true rfl) ⟨hc1, hc2⟩ dL_law_1065 (fun H1 locs1 hW1 hS1 => ?_)
  replace hO := hO.call hw hS1
  replace hS := LS_step hS hS1 hG
  refine va_forget (fun q hq => hS.2.2 q hq) ?_
  replace hS := LS_nil hS
  replace hW := hW1
  refine lv_istore (lv' := [(7, .int b9), (6, .int (kO_tick cd)), (0, .ref b), (1, .ref (gA G 14 0 0)), (2, .ref (gA G 40 0 0)), (3, .ref oJ), (4, .ref oD), (5, .int x5)]) hx hb dL_law_1068 hl (by decide) rfl (fun ls hl => ?_)
  refine lv_aload_n hx hb dL_law_1070 rfl (lv_at hl 4 rfl) ?_
  refine k_X12_thrown hx hb hml hown htg hK hW (va_S.rf (A := gF G)) (show m_X12_thrown w = some (w 40 0 0 0) from rfl) q380 hl.1 (Nat.le_of_ble_eq_true rfl) (Nat.le_of_ble_eq_true rfl) (Nat.le_of_ble_eq_true rfl) ⟨hc1, hc2⟩ dL_law_1071 (fun H1 locs1 hW1 hS1 => ?_)
  replace hO := hO.call hw hS1
  replace hS := LS_step hS hS1 hG
  refine va_forget (fun q hq => hS.2.2 q hq) ?_
  replace hS := LS_nil hS
  replace hW := hW1
  refine lv_iload hx hb dL_law_1074 (lv_at hl 1 rfl) ?_
  refine lv_icmp_eq (tgt := 1081) hx hb dL_law_1076 (by decide) (fun _ => ?_) (fun c9 => absurd hT c9)
  refine lv_iload hx hb dL_law_1081 (lv_at hl 1 rfl) ?_
  refine lv_if_ne (tgt := 1098) hx hb dL_law_1083 (by decide) (fun _ => ?_) (fun c9 => ?_)
  · refine lv_goto (tgt := 1824) hx hb dL_law_1098 (by decide) ?_
    exact K z w _ _ ls _ _ hR2 hW hO hS (lv_sub hl [2, 3, 4, 5, 6, 7] rfl)
  have h09 : cd = 0 := by
    rcases hcd with rfl | rfl
    · rfl
    · exact absurd c9 (by decide)
  subst h09
  replace hv := hv rfl
  subst hv
  rw [if_pos rfl] at hO
  refine lv_aload_n hx hb dL_law_1086 rfl (lv_at hl 5 rfl) ?_
  refine lv_iconst (v := (0 : Int32)) hx hb dL_law_1087 (by decide) ?_
  refine ol_J hx hb hK hO dL_law_1088 ?_
  refine lv_iload hx hb dL_law_1089 (lv_at hl 0 rfl) ?_
  refine lv_i2l (v := b9.toInt64) hx hb dL_law_1091 rfl ?_
  refine W.lcmp hx hb dL_law_1092 ?_
  rw [lg_self]
  refine lv_if_eq (tgt := 1098) hx hb dL_law_1093 (by decide) (fun _ => ?_) (fun c7 => absurd rfl c7)
  refine lv_goto (tgt := 1824) hx hb dL_law_1098 (by decide) ?_
  exact K z w _ _ ls _ _ hR2 hW hO hS (lv_sub hl [2, 3, 4, 5, 6, 7] rfl)
def Sim_reason (Rel : Nat → Mem → Mem → Prop) : Prop := ∀ (i : Nat) (x y : Mem) (p0 p1 : Int32) , (p1 = 0 ∨ p1 = 1) → i < 512 → Rel i x y → ∃ (cd : Nat) (v : Int32) (z : Mem) (b : Int32) (w : Mem), m_X11_reason p0 p1 x = some (cd, v, z) ∧ m_X12_reason p0 p1 y = some (b, w) ∧ (cd = 0 ∨ cd = 1 ∨ cd = 5) ∧ w 40 0 0 0 = kO_reason cd ∧ (cd = 0 → b = v) ∧ Rel (i + 1) z w
set_option maxHeartbeats 4000000 in
set_option maxRecDepth 100000 in
theorem lc_reason {p : Program} {l : Launch} {e : Env} {s : State} {m : MethodId} {args : Array Value} {below : List Frame} {meth : Method} {c : Code} {Q : State → Prop} (hx : p.tables.exec = Jvm.exec) (hb : c.code = cL_law) (hml : c.maxLocals = 9) (hown : s.vm.findClass RL = some m.cls) (htg : ∀ w ∈ wsG, w.before args s = true) (hst : l.stackTraces = false) {G : Geo} (hXt : Xt s) (hK : Kt G s) (hZ0 : Zt G s s.heap) {b L : Nat} {xs : Nat → Int32} (hX : va_X b L xs s s.heap) (hbl : b < s.heap.size) {oJ oD : Nat} (hw : Ow G oJ oD) (hA0 : ∀ q, gW G oJ oD q → s.heap.size ≤ q) (hGA : ∀ q, s.heap.size ≤ q → q ≠ oJ → q ≠ oD → gF G q) {Rel : Nat → Mem → Mem → Prop} {i : Nat} (hi5 : i < 512) {x5 : Int32} (hi0 : vp_in x5 L) (hi : ∀ k : Nat, k < 7 → vp_in (x5 + Int32.ofNat k) L) {cells slots : Nat} (hc1 : cells + 3 ≤ 603072) (hc2 : slots + 18 ≤ 7202922) (hsim : Sim_reason Rel) (K : ∀ (x y : Mem) (H : Heap) (locs : List Loc) (ls : Array Slot) (vj : Int64) (vd : UInt64), Rel (i + 1) x y → Wh G x y H → Oh G oJ oD vj vd H → va_S (LA s) s.heap H locs → lv_has ls 9 [(0, .ref b), (1, .ref (gA G 14 0 0)), (2, .ref (gA G 40 0 0)), (3, .ref oJ), (4, .ref oD), (5, .int x5)] → W p l e room_1 s m args below meth c H locs (cells + 3) (slots + 18) Q (F0 m 1824 ls [])) : ∀ (x y : Mem) (H : Heap) (locs : List Loc) (ls : Array Slot) (vj : Int64) (vd : UInt64), Rel i x y → Wh G x y H → Oh G oJ oD vj vd H → va_S (LA s) s.heap H locs → lv_has ls 9 [(0, .ref b), (1, .ref (gA G 14 0 0)), (2, .ref (gA G 40 0 0)), (3, .ref oJ), (4, .ref oD), (5, .int x5)] → W p l e room_1 s m args below meth c H locs cells slots Q (F0 m 1101 ls []) := by
  intro x y H locs ls vj vd hR hW hO hS hl
  refine va_forget (fun q hq => hS.2.2 q hq) ?_
  replace hS := LS_nil hS
  have hbA : ¬ LA s b := Nat.not_le.mpr hbl
  have hG : ∀ q, gF G q → s.heap.size ≤ q := fun q h => hA0 q (Or.inl h)
  by_cases cb : (xs (x5 + (2 : Int32)).toNatClampNeg) = 0
  · skip
    obtain ⟨cd, v, z, b9, w, h1, h2, hcd, hT, hv, hR2⟩ := hsim i x y ((xs (x5 + (1 : Int32)).toNatClampNeg)) ((0 : Int32)) (Or.inl rfl) hi5 hR
    refine lv_aload_n hx hb dL_law_1101 rfl (lv_at hl 1 rfl) ?_
    refine lv_aload_n hx hb dL_law_1102 rfl (lv_at hl 0 rfl) ?_
    refine lv_iload hx hb dL_law_1103 (lv_at hl 5 rfl) ?_
    refine lv_iconst (v := (1 : Int32)) hx hb dL_law_1105 (by decide) ?_
    refine lv_iadd hx hb dL_law_1106 ?_
    refine va_sld hx hb hX hbl hbA hS (hi 1 (by decide)) dL_law_1107 ?_
    refine lv_aload_n hx hb dL_law_1108 rfl (lv_at hl 0 rfl) ?_
    refine lv_iload hx hb dL_law_1109 (lv_at hl 5 rfl) ?_
    refine lv_iconst (v := (2 : Int32)) hx hb dL_law_1111 (by decide) ?_
    refine lv_iadd hx hb dL_law_1112 ?_
    refine va_sld hx hb hX hbl hbA hS (hi 2 (by decide)) dL_law_1113 ?_
    refine lv_if_eq (tgt := 1121) hx hb dL_law_1114 (by decide) (fun _ => ?_) (fun c9 => absurd cb c9)
    refine lv_iconst (v := (0 : Int32)) hx hb dL_law_1121 (by decide) ?_
    refine lv_aload_n hx hb dL_law_1122 rfl (lv_at hl 3 rfl) ?_
    refine kw_reason hx hb hml hown htg hst hXt (hZ0.law hS) (fun q hq => hGA q (Nat.le_trans hS.1 hq) (fun e9 => absurd hO.lt.1 (by rw [← e9]; omega)) (fun e9 => absurd hO.lt.2 (by rw [← e9]; omega))) hK hW hO hw hS hA0 h1 hcd q907 hl.1 (Nat.le_of_ble_eq_true rfl) (Nat.le_of_ble_eq_true rfl) (Nat.le_of_ble_eq_true rfl) ⟨hc1, hc2⟩ dL_law_1123 (fun H1 locs1 hW1 hO1 hS1 hk1 hz1 => ?_)
    refine va_forget (fun q hq => hS1.2.2 q hq) ?_
    replace hS := LS_nil hS1
    replace hW := hW1
    replace hO := hO1
    refine lv_istore (lv' := [(6, .int (kO_reason cd)), (0, .ref b), (1, .ref (gA G 14 0 0)), (2, .ref (gA G 40 0 0)), (3, .ref oJ), (4, .ref oD), (5, .int x5)]) hx hb dL_law_1126 hl (by decide) rfl (fun ls hl => ?_)
    refine lv_aload_n hx hb dL_law_1128 rfl (lv_at hl 3 rfl) ?_
    refine lv_aload_n hx hb dL_law_1129 rfl (lv_at hl 1 rfl) ?_
    refine lv_iload hx hb dL_law_1130 (lv_at hl 6 rfl) ?_
    refine lv_iconst (v := (1 : Int32)) hx hb dL_law_1132 (by decide) ?_
    refine lv_iadd hx hb dL_law_1133 ?_
    refine va_sld hx hb hX hbl hbA hS (hi 1 (by decide)) dL_law_1134 ?_
    refine lv_aload_n hx hb dL_law_1135 rfl (lv_at hl 1 rfl) ?_
    refine lv_iload hx hb dL_law_1136 (lv_at hl 6 rfl) ?_
    refine lv_iconst (v := (2 : Int32)) hx hb dL_law_1138 (by decide) ?_
    refine lv_iadd hx hb dL_law_1139 ?_
    refine va_sld hx hb hX hbl hbA hS (hi 2 (by decide)) dL_law_1140 ?_
    refine lv_if_eq (tgt := 1148) hx hb dL_law_1141 (by decide) (fun _ => ?_) (fun c9 => absurd cb c9)
    refine lv_iconst (v := (0 : Int32)) hx hb dL_law_1148 (by decide) ?_
    refine k_X12_reason hx hb hml hown htg hK hW (va_S.rf (A := gF G)) h2 q917 hl.1 (Nat.le_of_ble_eq_true rfl) (Nat.le_of_ble_eq_true rfl) (Nat.le_of_ble_eq_true rfl) ⟨hc1, hc2⟩ dL_law_1149 (fun H1 locs1 hW1 hS1 => ?_)
    replace hO := hO.call hw hS1
    replace hS := LS_step hS hS1 hG
    refine va_forget (fun q hq => hS.2.2 q hq) ?_
    replace hS := LS_nil hS
    replace hW := hW1
    refine lv_istore (lv' := [(7, .int b9), (6, .int (kO_reason cd)), (0, .ref b), (1, .ref (gA G 14 0 0)), (2, .ref (gA G 40 0 0)), (3, .ref oJ), (4, .ref oD), (5, .int x5)]) hx hb dL_law_1152 hl (by decide) rfl (fun ls hl => ?_)
    refine lv_aload_n hx hb dL_law_1154 rfl (lv_at hl 4 rfl) ?_
    refine k_X12_thrown hx hb hml hown htg hK hW (va_S.rf (A := gF G)) (show m_X12_thrown w = some (w 40 0 0 0) from rfl) q380 hl.1 (Nat.le_of_ble_eq_true rfl) (Nat.le_of_ble_eq_true rfl) (Nat.le_of_ble_eq_true rfl) ⟨hc1, hc2⟩ dL_law_1155 (fun H1 locs1 hW1 hS1 => ?_)
    replace hO := hO.call hw hS1
    replace hS := LS_step hS hS1 hG
    refine va_forget (fun q hq => hS.2.2 q hq) ?_
    replace hS := LS_nil hS
    replace hW := hW1
    refine lv_iload hx hb dL_law_1158 (lv_at hl 1 rfl) ?_
    refine lv_icmp_eq (tgt := 1165) hx hb dL_law_1160 (by decide) (fun _ => ?_) (fun c9 => absurd hT c9)
    refine lv_iload hx hb dL_law_1165 (lv_at hl 1 rfl) ?_
    refine lv_if_ne (tgt := 1182) hx hb dL_law_1167 (by decide) (fun _ => ?_) (fun c9 => ?_)
    · refine lv_goto (tgt := 1824) hx hb dL_law_1182 (by decide) ?_
      exact K z w _ _ ls _ _ hR2 hW hO hS (lv_sub hl [2, 3, 4, 5, 6, 7] rfl)
    have h09 : cd = 0 := by
      rcases hcd with rfl | rfl | rfl
      · rfl
      · exact absurd c9 (by decide)
      · exact absurd c9 (by decide)
    subst h09
    replace hv := hv rfl
    subst hv
    rw [if_pos rfl] at hO
    refine lv_aload_n hx hb dL_law_1170 rfl (lv_at hl 5 rfl) ?_
    refine lv_iconst (v := (0 : Int32)) hx hb dL_law_1171 (by decide) ?_
    refine ol_J hx hb hK hO dL_law_1172 ?_
    refine lv_iload hx hb dL_law_1173 (lv_at hl 0 rfl) ?_
    refine lv_i2l (v := b9.toInt64) hx hb dL_law_1175 rfl ?_
    refine W.lcmp hx hb dL_law_1176 ?_
    rw [lg_self]
    refine lv_if_eq (tgt := 1182) hx hb dL_law_1177 (by decide) (fun _ => ?_) (fun c7 => absurd rfl c7)
    refine lv_goto (tgt := 1824) hx hb dL_law_1182 (by decide) ?_
    exact K z w _ _ ls _ _ hR2 hW hO hS (lv_sub hl [2, 3, 4, 5, 6, 7] rfl)
  · skip
    obtain ⟨cd, v, z, b9, w, h1, h2, hcd, hT, hv, hR2⟩ := hsim i x y ((xs (x5 + (1 : Int32)).toNatClampNeg)) ((1 : Int32)) (Or.inr rfl) hi5 hR
    refine lv_aload_n hx hb dL_law_1101 rfl (lv_at hl 1 rfl) ?_
    refine lv_aload_n hx hb dL_law_1102 rfl (lv_at hl 0 rfl) ?_
    refine lv_iload hx hb dL_law_1103 (lv_at hl 5 rfl) ?_
    refine lv_iconst (v := (1 : Int32)) hx hb dL_law_1105 (by decide) ?_
    refine lv_iadd hx hb dL_law_1106 ?_
    refine va_sld hx hb hX hbl hbA hS (hi 1 (by decide)) dL_law_1107 ?_
    refine lv_aload_n hx hb dL_law_1108 rfl (lv_at hl 0 rfl) ?_
    refine lv_iload hx hb dL_law_1109 (lv_at hl 5 rfl) ?_
    refine lv_iconst (v := (2 : Int32)) hx hb dL_law_1111 (by decide) ?_
    refine lv_iadd hx hb dL_law_1112 ?_
    refine va_sld hx hb hX hbl hbA hS (hi 2 (by decide)) dL_law_1113 ?_
    refine lv_if_eq (tgt := 1121) hx hb dL_law_1114 (by decide) (fun c9 => absurd c9 cb) (fun _ => ?_)
    refine lv_iconst (v := (1 : Int32)) hx hb dL_law_1117 (by decide) ?_
    refine lv_goto (tgt := 1122) hx hb dL_law_1118 (by decide) ?_
    refine lv_aload_n hx hb dL_law_1122 rfl (lv_at hl 3 rfl) ?_
    refine kw_reason hx hb hml hown htg hst hXt (hZ0.law hS) (fun q hq => hGA q (Nat.le_trans hS.1 hq) (fun e9 => absurd hO.lt.1 (by rw [← e9]; omega)) (fun e9 => absurd hO.lt.2 (by rw [← e9]; omega))) hK hW hO hw hS hA0 h1 hcd q907 hl.1 (Nat.le_of_ble_eq_true rfl) (Nat.le_of_ble_eq_true rfl) (Nat.le_of_ble_eq_true rfl) ⟨hc1, hc2⟩ dL_law_1123 (fun H1 locs1 hW1 hO1 hS1 hk1 hz1 => ?_)
    refine va_forget (fun q hq => hS1.2.2 q hq) ?_
    replace hS := LS_nil hS1
    replace hW := hW1
    replace hO := hO1
    refine lv_istore (lv' := [(6, .int (kO_reason cd)), (0, .ref b), (1, .ref (gA G 14 0 0)), (2, .ref (gA G 40 0 0)), (3, .ref oJ), (4, .ref oD), (5, .int x5)]) hx hb dL_law_1126 hl (by decide) rfl (fun ls hl => ?_)
    refine lv_aload_n hx hb dL_law_1128 rfl (lv_at hl 3 rfl) ?_
    refine lv_aload_n hx hb dL_law_1129 rfl (lv_at hl 1 rfl) ?_
    refine lv_iload hx hb dL_law_1130 (lv_at hl 6 rfl) ?_
    refine lv_iconst (v := (1 : Int32)) hx hb dL_law_1132 (by decide) ?_
    refine lv_iadd hx hb dL_law_1133 ?_
    refine va_sld hx hb hX hbl hbA hS (hi 1 (by decide)) dL_law_1134 ?_
    refine lv_aload_n hx hb dL_law_1135 rfl (lv_at hl 1 rfl) ?_
    refine lv_iload hx hb dL_law_1136 (lv_at hl 6 rfl) ?_
    refine lv_iconst (v := (2 : Int32)) hx hb dL_law_1138 (by decide) ?_
    refine lv_iadd hx hb dL_law_1139 ?_
    refine va_sld hx hb hX hbl hbA hS (hi 2 (by decide)) dL_law_1140 ?_
    refine lv_if_eq (tgt := 1148) hx hb dL_law_1141 (by decide) (fun c9 => absurd c9 cb) (fun _ => ?_)
    refine lv_iconst (v := (1 : Int32)) hx hb dL_law_1144 (by decide) ?_
    refine lv_goto (tgt := 1149) hx hb dL_law_1145 (by decide) ?_
    refine k_X12_reason hx hb hml hown htg hK hW (va_S.rf (A := gF G)) h2 q917 hl.1 (Nat.le_of_ble_eq_true rfl) (Nat.le_of_ble_eq_true rfl) (Nat.le_of_ble_eq_true rfl) ⟨hc1, hc2⟩ dL_law_1149 (fun H1 locs1 hW1 hS1 => ?_)
    replace hO := hO.call hw hS1
    replace hS := LS_step hS hS1 hG
    refine va_forget (fun q hq => hS.2.2 q hq) ?_
    replace hS := LS_nil hS
    replace hW := hW1
    refine lv_istore (lv' := [(7, .int b9), (6, .int (kO_reason cd)), (0, .ref b), (1, .ref (gA G 14 0 0)), (2, .ref (gA G 40 0 0)), (3, .ref oJ), (4, .ref oD), (5, .int x5)]) hx hb dL_law_1152 hl (by decide) rfl (fun ls hl => ?_)
    refine lv_aload_n hx hb dL_law_1154 rfl (lv_at hl 4 rfl) ?_
    refine k_X12_thrown hx hb hml hown htg hK hW (va_S.rf (A := gF G)) (show m_X12_thrown w = some (w 40 0 0 0) from rfl) q380 hl.1 (Nat.le_of_ble_eq_true rfl) (Nat.le_of_ble_eq_true rfl) (Nat.le_of_ble_eq_true rfl) ⟨hc1, hc2⟩ dL_law_1155 (fun H1 locs1 hW1 hS1 => ?_)
    replace hO := hO.call hw hS1
    replace hS := LS_step hS hS1 hG
    refine va_forget (fun q hq => hS.2.2 q hq) ?_
    replace hS := LS_nil hS
    replace hW := hW1
    refine lv_iload hx hb dL_law_1158 (lv_at hl 1 rfl) ?_
    refine lv_icmp_eq (tgt := 1165) hx hb dL_law_1160 (by decide) (fun _ => ?_) (fun c9 => absurd hT c9)
    refine lv_iload hx hb dL_law_1165 (lv_at hl 1 rfl) ?_
    refine lv_if_ne (tgt := 1182) hx hb dL_law_1167 (by decide) (fun _ => ?_) (fun c9 => ?_)
    · refine lv_goto (tgt := 1824) hx hb dL_law_1182 (by decide) ?_
      exact K z w _ _ ls _ _ hR2 hW hO hS (lv_sub hl [2, 3, 4, 5, 6, 7] rfl)
    have h09 : cd = 0 := by
      rcases hcd with rfl | rfl | rfl
      · rfl
      · exact absurd c9 (by decide)
      · exact absurd c9 (by decide)
    subst h09
    replace hv := hv rfl
    subst hv
    rw [if_pos rfl] at hO
    refine lv_aload_n hx hb dL_law_1170 rfl (lv_at hl 5 rfl) ?_
    refine lv_iconst (v := (0 : Int32)) hx hb dL_law_1171 (by decide) ?_
    refine ol_J hx hb hK hO dL_law_1172 ?_
    refine lv_iload hx hb dL_law_1173 (lv_at hl 0 rfl) ?_
    refine lv_i2l (v := b9.toInt64) hx hb dL_law_1175 rfl ?_
    refine W.lcmp hx hb dL_law_1176 ?_
    rw [lg_self]
    refine lv_if_eq (tgt := 1182) hx hb dL_law_1177 (by decide) (fun _ => ?_) (fun c7 => absurd rfl c7)
    refine lv_goto (tgt := 1824) hx hb dL_law_1182 (by decide) ?_
    exact K z w _ _ ls _ _ hR2 hW hO hS (lv_sub hl [2, 3, 4, 5, 6, 7] rfl)
def Sim_wouldBe (Rel : Nat → Mem → Mem → Prop) : Prop := ∀ (i : Nat) (x y : Mem) (p0 : Int32) , i < 512 → Rel i x y → ∃ (cd : Nat) (v : Int32) (z : Mem) (b : Int32) (w : Mem), m_X11_wouldBe p0 x = some (cd, v, z) ∧ m_X12_wouldBe p0 y = some (b, w) ∧ (cd = 0 ∨ cd = 1 ∨ cd = 5) ∧ w 40 0 0 0 = kO_wouldBe cd ∧ (cd = 0 → b = v) ∧ Rel (i + 1) z w
set_option maxHeartbeats 4000000 in
set_option maxRecDepth 100000 in
theorem lc_wouldBe {p : Program} {l : Launch} {e : Env} {s : State} {m : MethodId} {args : Array Value} {below : List Frame} {meth : Method} {c : Code} {Q : State → Prop} (hx : p.tables.exec = Jvm.exec) (hb : c.code = cL_law) (hml : c.maxLocals = 9) (hown : s.vm.findClass RL = some m.cls) (htg : ∀ w ∈ wsG, w.before args s = true) (hst : l.stackTraces = false) {G : Geo} (hXt : Xt s) (hK : Kt G s) (hZ0 : Zt G s s.heap) {b L : Nat} {xs : Nat → Int32} (hX : va_X b L xs s s.heap) (hbl : b < s.heap.size) {oJ oD : Nat} (hw : Ow G oJ oD) (hA0 : ∀ q, gW G oJ oD q → s.heap.size ≤ q) (hGA : ∀ q, s.heap.size ≤ q → q ≠ oJ → q ≠ oD → gF G q) {Rel : Nat → Mem → Mem → Prop} {i : Nat} (hi5 : i < 512) {x5 : Int32} (hi0 : vp_in x5 L) (hi : ∀ k : Nat, k < 7 → vp_in (x5 + Int32.ofNat k) L) {cells slots : Nat} (hc1 : cells + 3 ≤ 603072) (hc2 : slots + 18 ≤ 7202922) (hsim : Sim_wouldBe Rel) (K : ∀ (x y : Mem) (H : Heap) (locs : List Loc) (ls : Array Slot) (vj : Int64) (vd : UInt64), Rel (i + 1) x y → Wh G x y H → Oh G oJ oD vj vd H → va_S (LA s) s.heap H locs → lv_has ls 9 [(0, .ref b), (1, .ref (gA G 14 0 0)), (2, .ref (gA G 40 0 0)), (3, .ref oJ), (4, .ref oD), (5, .int x5)] → W p l e room_1 s m args below meth c H locs (cells + 3) (slots + 18) Q (F0 m 1824 ls [])) : ∀ (x y : Mem) (H : Heap) (locs : List Loc) (ls : Array Slot) (vj : Int64) (vd : UInt64), Rel i x y → Wh G x y H → Oh G oJ oD vj vd H → va_S (LA s) s.heap H locs → lv_has ls 9 [(0, .ref b), (1, .ref (gA G 14 0 0)), (2, .ref (gA G 40 0 0)), (3, .ref oJ), (4, .ref oD), (5, .int x5)] → W p l e room_1 s m args below meth c H locs cells slots Q (F0 m 1185 ls []) := by
  intro x y H locs ls vj vd hR hW hO hS hl
  refine va_forget (fun q hq => hS.2.2 q hq) ?_
  replace hS := LS_nil hS
  have hbA : ¬ LA s b := Nat.not_le.mpr hbl
  have hG : ∀ q, gF G q → s.heap.size ≤ q := fun q h => hA0 q (Or.inl h)
  obtain ⟨cd, v, z, b9, w, h1, h2, hcd, hT, hv, hR2⟩ := hsim i x y ((xs (x5 + (1 : Int32)).toNatClampNeg)) hi5 hR
  refine lv_aload_n hx hb dL_law_1185 rfl (lv_at hl 1 rfl) ?_
  refine lv_aload_n hx hb dL_law_1186 rfl (lv_at hl 0 rfl) ?_
  refine lv_iload hx hb dL_law_1187 (lv_at hl 5 rfl) ?_
  refine lv_iconst (v := (1 : Int32)) hx hb dL_law_1189 (by decide) ?_
  refine lv_iadd hx hb dL_law_1190 ?_
  refine va_sld hx hb hX hbl hbA hS (hi 1 (by decide)) dL_law_1191 ?_
  refine lv_aload_n hx hb dL_law_1192 rfl (lv_at hl 3 rfl) ?_
  refine kw_wouldBe hx hb hml hown htg hst hXt (hZ0.law hS) (fun q hq => hGA q (Nat.le_trans hS.1 hq) (fun e9 => absurd hO.lt.1 (by rw [← e9]; omega)) (fun e9 => absurd hO.lt.2 (by rw [← e9]; omega))) hK hW hO hw hS hA0 h1 hcd q921 hl.1 (Nat.le_of_ble_eq_true rfl) (Nat.le_of_ble_eq_true rfl) (Nat.le_of_ble_eq_true rfl) ⟨hc1, hc2⟩ dL_law_1193 (fun H1 locs1 hW1 hO1 hS1 hk1 hz1 => ?_)
  refine va_forget (fun q hq => hS1.2.2 q hq) ?_
  replace hS := LS_nil hS1
  replace hW := hW1
  replace hO := hO1
  refine lv_istore (lv' := [(6, .int (kO_wouldBe cd)), (0, .ref b), (1, .ref (gA G 14 0 0)), (2, .ref (gA G 40 0 0)), (3, .ref oJ), (4, .ref oD), (5, .int x5)]) hx hb dL_law_1196 hl (by decide) rfl (fun ls hl => ?_)
  refine lv_aload_n hx hb dL_law_1198 rfl (lv_at hl 3 rfl) ?_
  refine lv_aload_n hx hb dL_law_1199 rfl (lv_at hl 1 rfl) ?_
  refine lv_iload hx hb dL_law_1200 (lv_at hl 6 rfl) ?_
  refine lv_iconst (v := (1 : Int32)) hx hb dL_law_1202 (by decide) ?_
  refine lv_iadd hx hb dL_law_1203 ?_
  refine va_sld hx hb hX hbl hbA hS (hi 1 (by decide)) dL_law_1204 ?_
  refine k_X12_wouldBe hx hb hml hown htg hK hW (va_S.rf (A := gF G)) h2 q931 hl.1 (Nat.le_of_ble_eq_true rfl) (Nat.le_of_ble_eq_true rfl) (Nat.le_of_ble_eq_true rfl) ⟨hc1, hc2⟩ dL_law_1205 (fun H1 locs1 hW1 hS1 => ?_)
  replace hO := hO.call hw hS1
  replace hS := LS_step hS hS1 hG
  refine va_forget (fun q hq => hS.2.2 q hq) ?_
  replace hS := LS_nil hS
  replace hW := hW1
  refine lv_istore (lv' := [(7, .int b9), (6, .int (kO_wouldBe cd)), (0, .ref b), (1, .ref (gA G 14 0 0)), (2, .ref (gA G 40 0 0)), (3, .ref oJ), (4, .ref oD), (5, .int x5)]) hx hb dL_law_1208 hl (by decide) rfl (fun ls hl => ?_)
  refine lv_aload_n hx hb dL_law_1210 rfl (lv_at hl 4 rfl) ?_
  refine k_X12_thrown hx hb hml hown htg hK hW (va_S.rf (A := gF G)) (show m_X12_thrown w = some (w 40 0 0 0) from rfl) q380 hl.1 (Nat.le_of_ble_eq_true rfl) (Nat.le_of_ble_eq_true rfl) (Nat.le_of_ble_eq_true rfl) ⟨hc1, hc2⟩ dL_law_1211 (fun H1 locs1 hW1 hS1 => ?_)
  replace hO := hO.call hw hS1
  replace hS := LS_step hS hS1 hG
  refine va_forget (fun q hq => hS.2.2 q hq) ?_
  replace hS := LS_nil hS
  replace hW := hW1
  refine lv_iload hx hb dL_law_1214 (lv_at hl 1 rfl) ?_
  refine lv_icmp_eq (tgt := 1221) hx hb dL_law_1216 (by decide) (fun _ => ?_) (fun c9 => absurd hT c9)
  refine lv_iload hx hb dL_law_1221 (lv_at hl 1 rfl) ?_
  refine lv_if_ne (tgt := 1238) hx hb dL_law_1223 (by decide) (fun _ => ?_) (fun c9 => ?_)
  · refine lv_goto (tgt := 1824) hx hb dL_law_1238 (by decide) ?_
    exact K z w _ _ ls _ _ hR2 hW hO hS (lv_sub hl [2, 3, 4, 5, 6, 7] rfl)
  have h09 : cd = 0 := by
    rcases hcd with rfl | rfl | rfl
    · rfl
    · exact absurd c9 (by decide)
    · exact absurd c9 (by decide)
  subst h09
  replace hv := hv rfl
  subst hv
  rw [if_pos rfl] at hO
  refine lv_aload_n hx hb dL_law_1226 rfl (lv_at hl 5 rfl) ?_
  refine lv_iconst (v := (0 : Int32)) hx hb dL_law_1227 (by decide) ?_
  refine ol_J hx hb hK hO dL_law_1228 ?_
  refine lv_iload hx hb dL_law_1229 (lv_at hl 0 rfl) ?_
  refine lv_i2l (v := b9.toInt64) hx hb dL_law_1231 rfl ?_
  refine W.lcmp hx hb dL_law_1232 ?_
  rw [lg_self]
  refine lv_if_eq (tgt := 1238) hx hb dL_law_1233 (by decide) (fun _ => ?_) (fun c7 => absurd rfl c7)
  refine lv_goto (tgt := 1824) hx hb dL_law_1238 (by decide) ?_
  exact K z w _ _ ls _ _ hR2 hW hO hS (lv_sub hl [2, 3, 4, 5, 6, 7] rfl)
def Sim_endsAfter (Rel : Nat → Mem → Mem → Prop) : Prop := ∀ (i : Nat) (x y : Mem) (p0 : Int32) , i < 512 → Rel i x y → ∃ (cd : Nat) (v : Int32) (z : Mem) (b : Int32) (w : Mem), m_X11_endsAfter p0 x = some (cd, v, z) ∧ m_X12_endsAfter p0 y = some (b, w) ∧ (cd = 0 ∨ cd = 1 ∨ cd = 5) ∧ w 40 0 0 0 = kO_endsAfter cd ∧ (cd = 0 → b = v) ∧ Rel (i + 1) z w
set_option maxHeartbeats 4000000 in
set_option maxRecDepth 100000 in
theorem lc_endsAfter {p : Program} {l : Launch} {e : Env} {s : State} {m : MethodId} {args : Array Value} {below : List Frame} {meth : Method} {c : Code} {Q : State → Prop} (hx : p.tables.exec = Jvm.exec) (hb : c.code = cL_law) (hml : c.maxLocals = 9) (hown : s.vm.findClass RL = some m.cls) (htg : ∀ w ∈ wsG, w.before args s = true) (hst : l.stackTraces = false) {G : Geo} (hXt : Xt s) (hK : Kt G s) (hZ0 : Zt G s s.heap) {b L : Nat} {xs : Nat → Int32} (hX : va_X b L xs s s.heap) (hbl : b < s.heap.size) {oJ oD : Nat} (hw : Ow G oJ oD) (hA0 : ∀ q, gW G oJ oD q → s.heap.size ≤ q) (hGA : ∀ q, s.heap.size ≤ q → q ≠ oJ → q ≠ oD → gF G q) {Rel : Nat → Mem → Mem → Prop} {i : Nat} (hi5 : i < 512) {x5 : Int32} (hi0 : vp_in x5 L) (hi : ∀ k : Nat, k < 7 → vp_in (x5 + Int32.ofNat k) L) {cells slots : Nat} (hc1 : cells + 3 ≤ 603072) (hc2 : slots + 18 ≤ 7202922) (hsim : Sim_endsAfter Rel) (K : ∀ (x y : Mem) (H : Heap) (locs : List Loc) (ls : Array Slot) (vj : Int64) (vd : UInt64), Rel (i + 1) x y → Wh G x y H → Oh G oJ oD vj vd H → va_S (LA s) s.heap H locs → lv_has ls 9 [(0, .ref b), (1, .ref (gA G 14 0 0)), (2, .ref (gA G 40 0 0)), (3, .ref oJ), (4, .ref oD), (5, .int x5)] → W p l e room_1 s m args below meth c H locs (cells + 3) (slots + 18) Q (F0 m 1824 ls [])) : ∀ (x y : Mem) (H : Heap) (locs : List Loc) (ls : Array Slot) (vj : Int64) (vd : UInt64), Rel i x y → Wh G x y H → Oh G oJ oD vj vd H → va_S (LA s) s.heap H locs → lv_has ls 9 [(0, .ref b), (1, .ref (gA G 14 0 0)), (2, .ref (gA G 40 0 0)), (3, .ref oJ), (4, .ref oD), (5, .int x5)] → W p l e room_1 s m args below meth c H locs cells slots Q (F0 m 1241 ls []) := by
  intro x y H locs ls vj vd hR hW hO hS hl
  refine va_forget (fun q hq => hS.2.2 q hq) ?_
  replace hS := LS_nil hS
  have hbA : ¬ LA s b := Nat.not_le.mpr hbl
  have hG : ∀ q, gF G q → s.heap.size ≤ q := fun q h => hA0 q (Or.inl h)
  obtain ⟨cd, v, z, b9, w, h1, h2, hcd, hT, hv, hR2⟩ := hsim i x y ((xs (x5 + (1 : Int32)).toNatClampNeg)) hi5 hR
  refine lv_aload_n hx hb dL_law_1241 rfl (lv_at hl 1 rfl) ?_
  refine lv_aload_n hx hb dL_law_1242 rfl (lv_at hl 0 rfl) ?_
  refine lv_iload hx hb dL_law_1243 (lv_at hl 5 rfl) ?_
  refine lv_iconst (v := (1 : Int32)) hx hb dL_law_1245 (by decide) ?_
  refine lv_iadd hx hb dL_law_1246 ?_
  refine va_sld hx hb hX hbl hbA hS (hi 1 (by decide)) dL_law_1247 ?_
  refine lv_aload_n hx hb dL_law_1248 rfl (lv_at hl 3 rfl) ?_
  refine kw_endsAfter hx hb hml hown htg hst hXt (hZ0.law hS) (fun q hq => hGA q (Nat.le_trans hS.1 hq) (fun e9 => absurd hO.lt.1 (by rw [← e9]; omega)) (fun e9 => absurd hO.lt.2 (by rw [← e9]; omega))) hK hW hO hw hS hA0 h1 hcd q935 hl.1 (Nat.le_of_ble_eq_true rfl) (Nat.le_of_ble_eq_true rfl) (Nat.le_of_ble_eq_true rfl) ⟨hc1, hc2⟩ dL_law_1249 (fun H1 locs1 hW1 hO1 hS1 hk1 hz1 => ?_)
  refine va_forget (fun q hq => hS1.2.2 q hq) ?_
  replace hS := LS_nil hS1
  replace hW := hW1
  replace hO := hO1
  refine lv_istore (lv' := [(6, .int (kO_endsAfter cd)), (0, .ref b), (1, .ref (gA G 14 0 0)), (2, .ref (gA G 40 0 0)), (3, .ref oJ), (4, .ref oD), (5, .int x5)]) hx hb dL_law_1252 hl (by decide) rfl (fun ls hl => ?_)
  refine lv_aload_n hx hb dL_law_1254 rfl (lv_at hl 3 rfl) ?_
  refine lv_aload_n hx hb dL_law_1255 rfl (lv_at hl 1 rfl) ?_
  refine lv_iload hx hb dL_law_1256 (lv_at hl 6 rfl) ?_
  refine lv_iconst (v := (1 : Int32)) hx hb dL_law_1258 (by decide) ?_
  refine lv_iadd hx hb dL_law_1259 ?_
  refine va_sld hx hb hX hbl hbA hS (hi 1 (by decide)) dL_law_1260 ?_
  refine k_X12_endsAfter hx hb hml hown htg hK hW (va_S.rf (A := gF G)) h2 q944 hl.1 (Nat.le_of_ble_eq_true rfl) (Nat.le_of_ble_eq_true rfl) (Nat.le_of_ble_eq_true rfl) ⟨hc1, hc2⟩ dL_law_1261 (fun H1 locs1 hW1 hS1 => ?_)
  replace hO := hO.call hw hS1
  replace hS := LS_step hS hS1 hG
  refine va_forget (fun q hq => hS.2.2 q hq) ?_
  replace hS := LS_nil hS
  replace hW := hW1
  refine lv_istore (lv' := [(7, .int b9), (6, .int (kO_endsAfter cd)), (0, .ref b), (1, .ref (gA G 14 0 0)), (2, .ref (gA G 40 0 0)), (3, .ref oJ), (4, .ref oD), (5, .int x5)]) hx hb dL_law_1264 hl (by decide) rfl (fun ls hl => ?_)
  refine lv_aload_n hx hb dL_law_1266 rfl (lv_at hl 4 rfl) ?_
  refine k_X12_thrown hx hb hml hown htg hK hW (va_S.rf (A := gF G)) (show m_X12_thrown w = some (w 40 0 0 0) from rfl) q380 hl.1 (Nat.le_of_ble_eq_true rfl) (Nat.le_of_ble_eq_true rfl) (Nat.le_of_ble_eq_true rfl) ⟨hc1, hc2⟩ dL_law_1267 (fun H1 locs1 hW1 hS1 => ?_)
  replace hO := hO.call hw hS1
  replace hS := LS_step hS hS1 hG
  refine va_forget (fun q hq => hS.2.2 q hq) ?_
  replace hS := LS_nil hS
  replace hW := hW1
  refine lv_iload hx hb dL_law_1270 (lv_at hl 1 rfl) ?_
  refine lv_icmp_eq (tgt := 1277) hx hb dL_law_1272 (by decide) (fun _ => ?_) (fun c9 => absurd hT c9)
  refine lv_iload hx hb dL_law_1277 (lv_at hl 1 rfl) ?_
  refine lv_if_ne (tgt := 1294) hx hb dL_law_1279 (by decide) (fun _ => ?_) (fun c9 => ?_)
  · refine lv_goto (tgt := 1824) hx hb dL_law_1294 (by decide) ?_
    exact K z w _ _ ls _ _ hR2 hW hO hS (lv_sub hl [2, 3, 4, 5, 6, 7] rfl)
  have h09 : cd = 0 := by
    rcases hcd with rfl | rfl | rfl
    · rfl
    · exact absurd c9 (by decide)
    · exact absurd c9 (by decide)
  subst h09
  replace hv := hv rfl
  subst hv
  rw [if_pos rfl] at hO
  refine lv_aload_n hx hb dL_law_1282 rfl (lv_at hl 5 rfl) ?_
  refine lv_iconst (v := (0 : Int32)) hx hb dL_law_1283 (by decide) ?_
  refine ol_J hx hb hK hO dL_law_1284 ?_
  refine lv_iload hx hb dL_law_1285 (lv_at hl 0 rfl) ?_
  refine lv_i2l (v := b9.toInt64) hx hb dL_law_1287 rfl ?_
  refine W.lcmp hx hb dL_law_1288 ?_
  rw [lg_self]
  refine lv_if_eq (tgt := 1294) hx hb dL_law_1289 (by decide) (fun _ => ?_) (fun c7 => absurd rfl c7)
  refine lv_goto (tgt := 1824) hx hb dL_law_1294 (by decide) ?_
  exact K z w _ _ ls _ _ hR2 hW hO hS (lv_sub hl [2, 3, 4, 5, 6, 7] rfl)
def Sim_idleAfter (Rel : Nat → Mem → Mem → Prop) : Prop := ∀ (i : Nat) (x y : Mem) , i < 512 → Rel i x y → ∃ (cd : Nat) (v : Int32) (z : Mem) (b : Int32) (w : Mem), m_X11_idleAfter x = some (cd, v, z) ∧ m_X12_idleAfter y = some (b, w) ∧ (cd = 0 ∨ cd = 5) ∧ w 40 0 0 0 = kO_idleAfter cd ∧ (cd = 0 → b = v) ∧ Rel (i + 1) z w
set_option maxHeartbeats 4000000 in
set_option maxRecDepth 100000 in
theorem lc_idleAfter {p : Program} {l : Launch} {e : Env} {s : State} {m : MethodId} {args : Array Value} {below : List Frame} {meth : Method} {c : Code} {Q : State → Prop} (hx : p.tables.exec = Jvm.exec) (hb : c.code = cL_law) (hml : c.maxLocals = 9) (hown : s.vm.findClass RL = some m.cls) (htg : ∀ w ∈ wsG, w.before args s = true) (hst : l.stackTraces = false) {G : Geo} (hXt : Xt s) (hK : Kt G s) (hZ0 : Zt G s s.heap) {b L : Nat} {xs : Nat → Int32} (hX : va_X b L xs s s.heap) (hbl : b < s.heap.size) {oJ oD : Nat} (hw : Ow G oJ oD) (hA0 : ∀ q, gW G oJ oD q → s.heap.size ≤ q) (hGA : ∀ q, s.heap.size ≤ q → q ≠ oJ → q ≠ oD → gF G q) {Rel : Nat → Mem → Mem → Prop} {i : Nat} (hi5 : i < 512) {x5 : Int32} (hi0 : vp_in x5 L) (hi : ∀ k : Nat, k < 7 → vp_in (x5 + Int32.ofNat k) L) {cells slots : Nat} (hc1 : cells + 3 ≤ 603072) (hc2 : slots + 18 ≤ 7202922) (hsim : Sim_idleAfter Rel) (K : ∀ (x y : Mem) (H : Heap) (locs : List Loc) (ls : Array Slot) (vj : Int64) (vd : UInt64), Rel (i + 1) x y → Wh G x y H → Oh G oJ oD vj vd H → va_S (LA s) s.heap H locs → lv_has ls 9 [(0, .ref b), (1, .ref (gA G 14 0 0)), (2, .ref (gA G 40 0 0)), (3, .ref oJ), (4, .ref oD), (5, .int x5)] → W p l e room_1 s m args below meth c H locs (cells + 3) (slots + 18) Q (F0 m 1824 ls [])) : ∀ (x y : Mem) (H : Heap) (locs : List Loc) (ls : Array Slot) (vj : Int64) (vd : UInt64), Rel i x y → Wh G x y H → Oh G oJ oD vj vd H → va_S (LA s) s.heap H locs → lv_has ls 9 [(0, .ref b), (1, .ref (gA G 14 0 0)), (2, .ref (gA G 40 0 0)), (3, .ref oJ), (4, .ref oD), (5, .int x5)] → W p l e room_1 s m args below meth c H locs cells slots Q (F0 m 1297 ls []) := by
  intro x y H locs ls vj vd hR hW hO hS hl
  refine va_forget (fun q hq => hS.2.2 q hq) ?_
  replace hS := LS_nil hS
  have hbA : ¬ LA s b := Nat.not_le.mpr hbl
  have hG : ∀ q, gF G q → s.heap.size ≤ q := fun q h => hA0 q (Or.inl h)
  obtain ⟨cd, v, z, b9, w, h1, h2, hcd, hT, hv, hR2⟩ := hsim i x y  hi5 hR
  refine lv_aload_n hx hb dL_law_1297 rfl (lv_at hl 1 rfl) ?_
  refine lv_aload_n hx hb dL_law_1298 rfl (lv_at hl 3 rfl) ?_
  refine kw_idleAfter hx hb hml hown htg hst hXt (hZ0.law hS) (fun q hq => hGA q (Nat.le_trans hS.1 hq) (fun e9 => absurd hO.lt.1 (by rw [← e9]; omega)) (fun e9 => absurd hO.lt.2 (by rw [← e9]; omega))) hK hW hO hw hS hA0 h1 hcd q956 hl.1 (Nat.le_of_ble_eq_true rfl) (Nat.le_of_ble_eq_true rfl) (Nat.le_of_ble_eq_true rfl) ⟨hc1, hc2⟩ dL_law_1299 (fun H1 locs1 hW1 hO1 hS1 hk1 hz1 => ?_)
  refine va_forget (fun q hq => hS1.2.2 q hq) ?_
  replace hS := LS_nil hS1
  replace hW := hW1
  replace hO := hO1
  refine lv_istore (lv' := [(6, .int (kO_idleAfter cd)), (0, .ref b), (1, .ref (gA G 14 0 0)), (2, .ref (gA G 40 0 0)), (3, .ref oJ), (4, .ref oD), (5, .int x5)]) hx hb dL_law_1302 hl (by decide) rfl (fun ls hl => ?_)
  refine lv_aload_n hx hb dL_law_1304 rfl (lv_at hl 3 rfl) ?_
  refine k_X12_idleAfter hx hb hml hown htg hK hW (va_S.rf (A := gF G)) h2 q967 hl.1 (Nat.le_of_ble_eq_true rfl) (Nat.le_of_ble_eq_true rfl) (Nat.le_of_ble_eq_true rfl) ⟨hc1, hc2⟩ dL_law_1305 (fun H1 locs1 hW1 hS1 => ?_)
  replace hO := hO.call hw hS1
  replace hS := LS_step hS hS1 hG
  refine va_forget (fun q hq => hS.2.2 q hq) ?_
  replace hS := LS_nil hS
  replace hW := hW1
  refine lv_istore (lv' := [(7, .int b9), (6, .int (kO_idleAfter cd)), (0, .ref b), (1, .ref (gA G 14 0 0)), (2, .ref (gA G 40 0 0)), (3, .ref oJ), (4, .ref oD), (5, .int x5)]) hx hb dL_law_1308 hl (by decide) rfl (fun ls hl => ?_)
  refine lv_aload_n hx hb dL_law_1310 rfl (lv_at hl 4 rfl) ?_
  refine k_X12_thrown hx hb hml hown htg hK hW (va_S.rf (A := gF G)) (show m_X12_thrown w = some (w 40 0 0 0) from rfl) q380 hl.1 (Nat.le_of_ble_eq_true rfl) (Nat.le_of_ble_eq_true rfl) (Nat.le_of_ble_eq_true rfl) ⟨hc1, hc2⟩ dL_law_1311 (fun H1 locs1 hW1 hS1 => ?_)
  replace hO := hO.call hw hS1
  replace hS := LS_step hS hS1 hG
  refine va_forget (fun q hq => hS.2.2 q hq) ?_
  replace hS := LS_nil hS
  replace hW := hW1
  refine lv_iload hx hb dL_law_1314 (lv_at hl 1 rfl) ?_
  refine lv_icmp_eq (tgt := 1321) hx hb dL_law_1316 (by decide) (fun _ => ?_) (fun c9 => absurd hT c9)
  refine lv_iload hx hb dL_law_1321 (lv_at hl 1 rfl) ?_
  refine lv_if_ne (tgt := 1338) hx hb dL_law_1323 (by decide) (fun _ => ?_) (fun c9 => ?_)
  · refine lv_goto (tgt := 1824) hx hb dL_law_1338 (by decide) ?_
    exact K z w _ _ ls _ _ hR2 hW hO hS (lv_sub hl [2, 3, 4, 5, 6, 7] rfl)
  have h09 : cd = 0 := by
    rcases hcd with rfl | rfl
    · rfl
    · exact absurd c9 (by decide)
  subst h09
  replace hv := hv rfl
  subst hv
  rw [if_pos rfl] at hO
  refine lv_aload_n hx hb dL_law_1326 rfl (lv_at hl 5 rfl) ?_
  refine lv_iconst (v := (0 : Int32)) hx hb dL_law_1327 (by decide) ?_
  refine ol_J hx hb hK hO dL_law_1328 ?_
  refine lv_iload hx hb dL_law_1329 (lv_at hl 0 rfl) ?_
  refine lv_i2l (v := b9.toInt64) hx hb dL_law_1331 rfl ?_
  refine W.lcmp hx hb dL_law_1332 ?_
  rw [lg_self]
  refine lv_if_eq (tgt := 1338) hx hb dL_law_1333 (by decide) (fun _ => ?_) (fun c7 => absurd rfl c7)
  refine lv_goto (tgt := 1824) hx hb dL_law_1338 (by decide) ?_
  exact K z w _ _ ls _ _ hR2 hW hO hS (lv_sub hl [2, 3, 4, 5, 6, 7] rfl)
def Sim_isSafe (Rel : Nat → Mem → Mem → Prop) : Prop := ∀ (i : Nat) (x y : Mem), i < 512 → Rel i x y → ∃ (v : Int32) (z w : Mem), m_X11_isSafe x = some (v, z) ∧ m_X12_isSafe y = some (v, w) ∧ Rel (i + 1) z w
set_option maxHeartbeats 4000000 in
set_option maxRecDepth 100000 in
theorem lc_isSafe {p : Program} {l : Launch} {e : Env} {s : State} {m : MethodId} {args : Array Value} {below : List Frame} {meth : Method} {c : Code} {Q : State → Prop} (hx : p.tables.exec = Jvm.exec) (hb : c.code = cL_law) (hml : c.maxLocals = 9) (hown : s.vm.findClass RL = some m.cls) (htg : ∀ w ∈ wsG, w.before args s = true) (hst : l.stackTraces = false) {G : Geo} (hXt : Xt s) (hK : Kt G s) (hZ0 : Zt G s s.heap) {b L : Nat} {xs : Nat → Int32} (hX : va_X b L xs s s.heap) (hbl : b < s.heap.size) {oJ oD : Nat} (hw : Ow G oJ oD) (hA0 : ∀ q, gW G oJ oD q → s.heap.size ≤ q) (hGA : ∀ q, s.heap.size ≤ q → q ≠ oJ → q ≠ oD → gF G q) {Rel : Nat → Mem → Mem → Prop} {i : Nat} (hi5 : i < 512) {x5 : Int32} (hi0 : vp_in x5 L) (hi : ∀ k : Nat, k < 7 → vp_in (x5 + Int32.ofNat k) L) {cells slots : Nat} (hc1 : cells + 3 ≤ 603072) (hc2 : slots + 18 ≤ 7202922) (hsim : Sim_isSafe Rel) (K : ∀ (x y : Mem) (H : Heap) (locs : List Loc) (ls : Array Slot) (vj : Int64) (vd : UInt64), Rel (i + 1) x y → Wh G x y H → Oh G oJ oD vj vd H → va_S (LA s) s.heap H locs → lv_has ls 9 [(0, .ref b), (1, .ref (gA G 14 0 0)), (2, .ref (gA G 40 0 0)), (3, .ref oJ), (4, .ref oD), (5, .int x5)] → W p l e room_1 s m args below meth c H locs (cells + 3) (slots + 18) Q (F0 m 1824 ls [])) : ∀ (x y : Mem) (H : Heap) (locs : List Loc) (ls : Array Slot) (vj : Int64) (vd : UInt64), Rel i x y → Wh G x y H → Oh G oJ oD vj vd H → va_S (LA s) s.heap H locs → lv_has ls 9 [(0, .ref b), (1, .ref (gA G 14 0 0)), (2, .ref (gA G 40 0 0)), (3, .ref oJ), (4, .ref oD), (5, .int x5)] → W p l e room_1 s m args below meth c H locs cells slots Q (F0 m 1341 ls []) := by
  intro x y H locs ls vj vd hR hW hO hS hl
  refine va_forget (fun q hq => hS.2.2 q hq) ?_
  replace hS := LS_nil hS
  have hbA : ¬ LA s b := Nat.not_le.mpr hbl
  have hG : ∀ q, gF G q → s.heap.size ≤ q := fun q h => hA0 q (Or.inl h)
  obtain ⟨v, z, w, h1, h2, hR2⟩ := hsim i x y hi5 hR
  refine lv_aload_n hx hb dL_law_1341 rfl (lv_at hl 1 rfl) ?_
  refine k_X11_isSafe hx hb hml hown htg hK hW (va_S.rf (A := gF G)) h1 q971 hl.1 (Nat.le_of_ble_eq_true rfl) (Nat.le_of_ble_eq_true rfl) (Nat.le_of_ble_eq_true rfl) ⟨Nat.le_trans (Nat.le_add_right _ _) hc1, Nat.le_trans (Nat.le_add_right _ _) hc2⟩ dL_law_1342 (fun H1 locs1 hW1 hS1 => ?_)
  replace hO := hO.call hw hS1
  replace hS := LS_step hS hS1 hG
  refine va_forget (fun q hq => hS.2.2 q hq) ?_
  replace hS := LS_nil hS
  replace hW := hW1
  refine lv_aload_n hx hb dL_law_1345 rfl (lv_at hl 2 rfl) ?_
  refine k_X12_isSafe hx hb hml hown htg hK hW (va_S.rf (A := gF G)) h2 q979 hl.1 (Nat.le_of_ble_eq_true rfl) (Nat.le_of_ble_eq_true rfl) (Nat.le_of_ble_eq_true rfl) ⟨Nat.le_trans (Nat.le_add_right _ _) hc1, Nat.le_trans (Nat.le_add_right _ _) hc2⟩ dL_law_1346 (fun H1 locs1 hW1 hS1 => ?_)
  replace hO := hO.call hw hS1
  replace hS := LS_step hS hS1 hG
  refine va_forget (fun q hq => hS.2.2 q hq) ?_
  replace hS := LS_nil hS
  replace hW := hW1
  refine lv_icmp_eq (tgt := 1824) hx hb dL_law_1349 (by decide) (fun _ => ?_) (fun c9 => absurd rfl c9)
  refine W.widen (Nat.le_add_right _ 3) (Nat.le_add_right _ 18) ?_
  exact K z w _ _ ls _ _ hR2 hW hO hS (lv_sub hl [0, 1, 2, 3, 4, 5] rfl)
def Sim_entry (Rel : Nat → Mem → Mem → Prop) : Prop := ∀ (i : Nat) (x y : Mem) (p0 p1 : Int32) , i < 512 → Rel i x y → ∃ (cd : Nat) (v : Int32) (z : Mem) (b : Int32) (w : Mem), m_X11_entry p0 p1 x = some (cd, v, z) ∧ m_X12_entry p0 p1 y = some (b, w) ∧ (cd = 0 ∨ cd = 1 ∨ cd = 2) ∧ w 40 0 0 0 = kO_entry cd ∧ (cd = 0 → b = v) ∧ Rel (i + 1) z w
set_option maxHeartbeats 4000000 in
set_option maxRecDepth 100000 in
theorem lc_entry {p : Program} {l : Launch} {e : Env} {s : State} {m : MethodId} {args : Array Value} {below : List Frame} {meth : Method} {c : Code} {Q : State → Prop} (hx : p.tables.exec = Jvm.exec) (hb : c.code = cL_law) (hml : c.maxLocals = 9) (hown : s.vm.findClass RL = some m.cls) (htg : ∀ w ∈ wsG, w.before args s = true) (hst : l.stackTraces = false) {G : Geo} (hXt : Xt s) (hK : Kt G s) (hZ0 : Zt G s s.heap) {b L : Nat} {xs : Nat → Int32} (hX : va_X b L xs s s.heap) (hbl : b < s.heap.size) {oJ oD : Nat} (hw : Ow G oJ oD) (hA0 : ∀ q, gW G oJ oD q → s.heap.size ≤ q) (hGA : ∀ q, s.heap.size ≤ q → q ≠ oJ → q ≠ oD → gF G q) {Rel : Nat → Mem → Mem → Prop} {i : Nat} (hi5 : i < 512) {x5 : Int32} (hi0 : vp_in x5 L) (hi : ∀ k : Nat, k < 7 → vp_in (x5 + Int32.ofNat k) L) {cells slots : Nat} (hc1 : cells + 3 ≤ 603072) (hc2 : slots + 18 ≤ 7202922) (hsim : Sim_entry Rel) (K : ∀ (x y : Mem) (H : Heap) (locs : List Loc) (ls : Array Slot) (vj : Int64) (vd : UInt64), Rel (i + 1) x y → Wh G x y H → Oh G oJ oD vj vd H → va_S (LA s) s.heap H locs → lv_has ls 9 [(0, .ref b), (1, .ref (gA G 14 0 0)), (2, .ref (gA G 40 0 0)), (3, .ref oJ), (4, .ref oD), (5, .int x5)] → W p l e room_1 s m args below meth c H locs (cells + 3) (slots + 18) Q (F0 m 1824 ls [])) : ∀ (x y : Mem) (H : Heap) (locs : List Loc) (ls : Array Slot) (vj : Int64) (vd : UInt64), Rel i x y → Wh G x y H → Oh G oJ oD vj vd H → va_S (LA s) s.heap H locs → lv_has ls 9 [(0, .ref b), (1, .ref (gA G 14 0 0)), (2, .ref (gA G 40 0 0)), (3, .ref oJ), (4, .ref oD), (5, .int x5)] → W p l e room_1 s m args below meth c H locs cells slots Q (F0 m 1354 ls []) := by
  intro x y H locs ls vj vd hR hW hO hS hl
  refine va_forget (fun q hq => hS.2.2 q hq) ?_
  replace hS := LS_nil hS
  have hbA : ¬ LA s b := Nat.not_le.mpr hbl
  have hG : ∀ q, gF G q → s.heap.size ≤ q := fun q h => hA0 q (Or.inl h)
  obtain ⟨cd, v, z, b9, w, h1, h2, hcd, hT, hv, hR2⟩ := hsim i x y ((xs (x5 + (1 : Int32)).toNatClampNeg)) ((xs (x5 + (2 : Int32)).toNatClampNeg)) hi5 hR
  refine lv_aload_n hx hb dL_law_1354 rfl (lv_at hl 1 rfl) ?_
  refine lv_aload_n hx hb dL_law_1355 rfl (lv_at hl 0 rfl) ?_
  refine lv_iload hx hb dL_law_1356 (lv_at hl 5 rfl) ?_
  refine lv_iconst (v := (1 : Int32)) hx hb dL_law_1358 (by decide) ?_
  refine lv_iadd hx hb dL_law_1359 ?_
  refine va_sld hx hb hX hbl hbA hS (hi 1 (by decide)) dL_law_1360 ?_
  refine lv_aload_n hx hb dL_law_1361 rfl (lv_at hl 0 rfl) ?_
  refine lv_iload hx hb dL_law_1362 (lv_at hl 5 rfl) ?_
  refine lv_iconst (v := (2 : Int32)) hx hb dL_law_1364 (by decide) ?_
  refine lv_iadd hx hb dL_law_1365 ?_
  refine va_sld hx hb hX hbl hbA hS (hi 2 (by decide)) dL_law_1366 ?_
  refine lv_aload_n hx hb dL_law_1367 rfl (lv_at hl 3 rfl) ?_
  refine kw_entry hx hb hml hown htg hst hXt (hZ0.law hS) (fun q hq => hGA q (Nat.le_trans hS.1 hq) (fun e9 => absurd hO.lt.1 (by rw [← e9]; omega)) (fun e9 => absurd hO.lt.2 (by rw [← e9]; omega))) hK hW hO hw hS hA0 h1 hcd q983 hl.1 (Nat.le_of_ble_eq_true rfl) (Nat.le_of_ble_eq_true rfl) (Nat.le_of_ble_eq_true rfl) ⟨hc1, hc2⟩ dL_law_1368 (fun H1 locs1 hW1 hO1 hS1 hk1 hz1 => ?_)
  refine va_forget (fun q hq => hS1.2.2 q hq) ?_
  replace hS := LS_nil hS1
  replace hW := hW1
  replace hO := hO1
  refine lv_istore (lv' := [(6, .int (kO_entry cd)), (0, .ref b), (1, .ref (gA G 14 0 0)), (2, .ref (gA G 40 0 0)), (3, .ref oJ), (4, .ref oD), (5, .int x5)]) hx hb dL_law_1371 hl (by decide) rfl (fun ls hl => ?_)
  refine lv_aload_n hx hb dL_law_1373 rfl (lv_at hl 3 rfl) ?_
  refine lv_aload_n hx hb dL_law_1374 rfl (lv_at hl 1 rfl) ?_
  refine lv_iload hx hb dL_law_1375 (lv_at hl 6 rfl) ?_
  refine lv_iconst (v := (1 : Int32)) hx hb dL_law_1377 (by decide) ?_
  refine lv_iadd hx hb dL_law_1378 ?_
  refine va_sld hx hb hX hbl hbA hS (hi 1 (by decide)) dL_law_1379 ?_
  refine lv_aload_n hx hb dL_law_1380 rfl (lv_at hl 1 rfl) ?_
  refine lv_iload hx hb dL_law_1381 (lv_at hl 6 rfl) ?_
  refine lv_iconst (v := (2 : Int32)) hx hb dL_law_1383 (by decide) ?_
  refine lv_iadd hx hb dL_law_1384 ?_
  refine va_sld hx hb hX hbl hbA hS (hi 2 (by decide)) dL_law_1385 ?_
  refine k_X12_entry hx hb hml hown htg hK hW (va_S.rf (A := gF G)) h2 q1000 hl.1 (Nat.le_of_ble_eq_true rfl) (Nat.le_of_ble_eq_true rfl) (Nat.le_of_ble_eq_true rfl) ⟨hc1, hc2⟩ dL_law_1386 (fun H1 locs1 hW1 hS1 => ?_)
  replace hO := hO.call hw hS1
  replace hS := LS_step hS hS1 hG
  refine va_forget (fun q hq => hS.2.2 q hq) ?_
  replace hS := LS_nil hS
  replace hW := hW1
  refine lv_istore (lv' := [(7, .int b9), (6, .int (kO_entry cd)), (0, .ref b), (1, .ref (gA G 14 0 0)), (2, .ref (gA G 40 0 0)), (3, .ref oJ), (4, .ref oD), (5, .int x5)]) hx hb dL_law_1389 hl (by decide) rfl (fun ls hl => ?_)
  refine lv_aload_n hx hb dL_law_1391 rfl (lv_at hl 4 rfl) ?_
  refine k_X12_thrown hx hb hml hown htg hK hW (va_S.rf (A := gF G)) (show m_X12_thrown w = some (w 40 0 0 0) from rfl) q380 hl.1 (Nat.le_of_ble_eq_true rfl) (Nat.le_of_ble_eq_true rfl) (Nat.le_of_ble_eq_true rfl) ⟨hc1, hc2⟩ dL_law_1392 (fun H1 locs1 hW1 hS1 => ?_)
  replace hO := hO.call hw hS1
  replace hS := LS_step hS hS1 hG
  refine va_forget (fun q hq => hS.2.2 q hq) ?_
  replace hS := LS_nil hS
  replace hW := hW1
  refine lv_iload hx hb dL_law_1395 (lv_at hl 1 rfl) ?_
  refine lv_icmp_eq (tgt := 1402) hx hb dL_law_1397 (by decide) (fun _ => ?_) (fun c9 => absurd hT c9)
  refine lv_iload hx hb dL_law_1402 (lv_at hl 1 rfl) ?_
  refine lv_if_ne (tgt := 1419) hx hb dL_law_1404 (by decide) (fun _ => ?_) (fun c9 => ?_)
  · refine lv_goto (tgt := 1824) hx hb dL_law_1419 (by decide) ?_
    exact K z w _ _ ls _ _ hR2 hW hO hS (lv_sub hl [2, 3, 4, 5, 6, 7] rfl)
  have h09 : cd = 0 := by
    rcases hcd with rfl | rfl | rfl
    · rfl
    · exact absurd c9 (by decide)
    · exact absurd c9 (by decide)
  subst h09
  replace hv := hv rfl
  subst hv
  rw [if_pos rfl] at hO
  refine lv_aload_n hx hb dL_law_1407 rfl (lv_at hl 5 rfl) ?_
  refine lv_iconst (v := (0 : Int32)) hx hb dL_law_1408 (by decide) ?_
  refine ol_J hx hb hK hO dL_law_1409 ?_
  refine lv_iload hx hb dL_law_1410 (lv_at hl 0 rfl) ?_
  refine lv_i2l (v := b9.toInt64) hx hb dL_law_1412 rfl ?_
  refine W.lcmp hx hb dL_law_1413 ?_
  rw [lg_self]
  refine lv_if_eq (tgt := 1419) hx hb dL_law_1414 (by decide) (fun _ => ?_) (fun c7 => absurd rfl c7)
  refine lv_goto (tgt := 1824) hx hb dL_law_1419 (by decide) ?_
  exact K z w _ _ ls _ _ hR2 hW hO hS (lv_sub hl [2, 3, 4, 5, 6, 7] rfl)
def Sim_account (Rel : Nat → Mem → Mem → Prop) : Prop := ∀ (i : Nat) (x y : Mem) (p0 : Int32) , i < 512 → Rel i x y → ∃ (cd : Nat) (v : Int32) (z : Mem) (b : Int32) (w : Mem), m_X11_account p0 x = some (cd, v, z) ∧ m_X12_account p0 y = some (b, w) ∧ (cd = 0 ∨ cd = 2) ∧ w 40 0 0 0 = kO_account cd ∧ (cd = 0 → b = v) ∧ Rel (i + 1) z w
set_option maxHeartbeats 4000000 in
set_option maxRecDepth 100000 in
theorem lc_account {p : Program} {l : Launch} {e : Env} {s : State} {m : MethodId} {args : Array Value} {below : List Frame} {meth : Method} {c : Code} {Q : State → Prop} (hx : p.tables.exec = Jvm.exec) (hb : c.code = cL_law) (hml : c.maxLocals = 9) (hown : s.vm.findClass RL = some m.cls) (htg : ∀ w ∈ wsG, w.before args s = true) (hst : l.stackTraces = false) {G : Geo} (hXt : Xt s) (hK : Kt G s) (hZ0 : Zt G s s.heap) {b L : Nat} {xs : Nat → Int32} (hX : va_X b L xs s s.heap) (hbl : b < s.heap.size) {oJ oD : Nat} (hw : Ow G oJ oD) (hA0 : ∀ q, gW G oJ oD q → s.heap.size ≤ q) (hGA : ∀ q, s.heap.size ≤ q → q ≠ oJ → q ≠ oD → gF G q) {Rel : Nat → Mem → Mem → Prop} {i : Nat} (hi5 : i < 512) {x5 : Int32} (hi0 : vp_in x5 L) (hi : ∀ k : Nat, k < 7 → vp_in (x5 + Int32.ofNat k) L) {cells slots : Nat} (hc1 : cells + 3 ≤ 603072) (hc2 : slots + 18 ≤ 7202922) (hsim : Sim_account Rel) (K : ∀ (x y : Mem) (H : Heap) (locs : List Loc) (ls : Array Slot) (vj : Int64) (vd : UInt64), Rel (i + 1) x y → Wh G x y H → Oh G oJ oD vj vd H → va_S (LA s) s.heap H locs → lv_has ls 9 [(0, .ref b), (1, .ref (gA G 14 0 0)), (2, .ref (gA G 40 0 0)), (3, .ref oJ), (4, .ref oD), (5, .int x5)] → W p l e room_1 s m args below meth c H locs (cells + 3) (slots + 18) Q (F0 m 1824 ls [])) : ∀ (x y : Mem) (H : Heap) (locs : List Loc) (ls : Array Slot) (vj : Int64) (vd : UInt64), Rel i x y → Wh G x y H → Oh G oJ oD vj vd H → va_S (LA s) s.heap H locs → lv_has ls 9 [(0, .ref b), (1, .ref (gA G 14 0 0)), (2, .ref (gA G 40 0 0)), (3, .ref oJ), (4, .ref oD), (5, .int x5)] → W p l e room_1 s m args below meth c H locs cells slots Q (F0 m 1422 ls []) := by
  intro x y H locs ls vj vd hR hW hO hS hl
  refine va_forget (fun q hq => hS.2.2 q hq) ?_
  replace hS := LS_nil hS
  have hbA : ¬ LA s b := Nat.not_le.mpr hbl
  have hG : ∀ q, gF G q → s.heap.size ≤ q := fun q h => hA0 q (Or.inl h)
  obtain ⟨cd, v, z, b9, w, h1, h2, hcd, hT, hv, hR2⟩ := hsim i x y ((xs (x5 + (1 : Int32)).toNatClampNeg)) hi5 hR
  refine lv_aload_n hx hb dL_law_1422 rfl (lv_at hl 1 rfl) ?_
  refine lv_aload_n hx hb dL_law_1423 rfl (lv_at hl 0 rfl) ?_
  refine lv_iload hx hb dL_law_1424 (lv_at hl 5 rfl) ?_
  refine lv_iconst (v := (1 : Int32)) hx hb dL_law_1426 (by decide) ?_
  refine lv_iadd hx hb dL_law_1427 ?_
  refine va_sld hx hb hX hbl hbA hS (hi 1 (by decide)) dL_law_1428 ?_
  refine lv_aload_n hx hb dL_law_1429 rfl (lv_at hl 3 rfl) ?_
  refine kw_account hx hb hml hown htg hst hXt (hZ0.law hS) (fun q hq => hGA q (Nat.le_trans hS.1 hq) (fun e9 => absurd hO.lt.1 (by rw [← e9]; omega)) (fun e9 => absurd hO.lt.2 (by rw [← e9]; omega))) hK hW hO hw hS hA0 h1 hcd q1004 hl.1 (Nat.le_of_ble_eq_true rfl) (Nat.le_of_ble_eq_true rfl) (Nat.le_of_ble_eq_true rfl) ⟨hc1, hc2⟩ dL_law_1430 (fun H1 locs1 hW1 hO1 hS1 hk1 hz1 => ?_)
  refine va_forget (fun q hq => hS1.2.2 q hq) ?_
  replace hS := LS_nil hS1
  replace hW := hW1
  replace hO := hO1
  refine lv_istore (lv' := [(6, .int (kO_account cd)), (0, .ref b), (1, .ref (gA G 14 0 0)), (2, .ref (gA G 40 0 0)), (3, .ref oJ), (4, .ref oD), (5, .int x5)]) hx hb dL_law_1433 hl (by decide) rfl (fun ls hl => ?_)
  refine lv_aload_n hx hb dL_law_1435 rfl (lv_at hl 3 rfl) ?_
  refine lv_aload_n hx hb dL_law_1436 rfl (lv_at hl 1 rfl) ?_
  refine lv_iload hx hb dL_law_1437 (lv_at hl 6 rfl) ?_
  refine lv_iconst (v := (1 : Int32)) hx hb dL_law_1439 (by decide) ?_
  refine lv_iadd hx hb dL_law_1440 ?_
  refine va_sld hx hb hX hbl hbA hS (hi 1 (by decide)) dL_law_1441 ?_
  refine k_X12_account hx hb hml hown htg hK hW (va_S.rf (A := gF G)) h2 q1026 hl.1 (Nat.le_of_ble_eq_true rfl) (Nat.le_of_ble_eq_true rfl) (Nat.le_of_ble_eq_true rfl) ⟨hc1, hc2⟩ dL_law_1442 (fun H1 locs1 hW1 hS1 => ?_)
  replace hO := hO.call hw hS1
  replace hS := LS_step hS hS1 hG
  refine va_forget (fun q hq => hS.2.2 q hq) ?_
  replace hS := LS_nil hS
  replace hW := hW1
  refine lv_istore (lv' := [(7, .int b9), (6, .int (kO_account cd)), (0, .ref b), (1, .ref (gA G 14 0 0)), (2, .ref (gA G 40 0 0)), (3, .ref oJ), (4, .ref oD), (5, .int x5)]) hx hb dL_law_1445 hl (by decide) rfl (fun ls hl => ?_)
  refine lv_aload_n hx hb dL_law_1447 rfl (lv_at hl 4 rfl) ?_
  refine k_X12_thrown hx hb hml hown htg hK hW (va_S.rf (A := gF G)) (show m_X12_thrown w = some (w 40 0 0 0) from rfl) q380 hl.1 (Nat.le_of_ble_eq_true rfl) (Nat.le_of_ble_eq_true rfl) (Nat.le_of_ble_eq_true rfl) ⟨hc1, hc2⟩ dL_law_1448 (fun H1 locs1 hW1 hS1 => ?_)
  replace hO := hO.call hw hS1
  replace hS := LS_step hS hS1 hG
  refine va_forget (fun q hq => hS.2.2 q hq) ?_
  replace hS := LS_nil hS
  replace hW := hW1
  refine lv_iload hx hb dL_law_1451 (lv_at hl 1 rfl) ?_
  refine lv_icmp_eq (tgt := 1458) hx hb dL_law_1453 (by decide) (fun _ => ?_) (fun c9 => absurd hT c9)
  refine lv_iload hx hb dL_law_1458 (lv_at hl 1 rfl) ?_
  refine lv_if_ne (tgt := 1475) hx hb dL_law_1460 (by decide) (fun _ => ?_) (fun c9 => ?_)
  · refine lv_goto (tgt := 1824) hx hb dL_law_1475 (by decide) ?_
    exact K z w _ _ ls _ _ hR2 hW hO hS (lv_sub hl [2, 3, 4, 5, 6, 7] rfl)
  have h09 : cd = 0 := by
    rcases hcd with rfl | rfl
    · rfl
    · exact absurd c9 (by decide)
  subst h09
  replace hv := hv rfl
  subst hv
  rw [if_pos rfl] at hO
  refine lv_aload_n hx hb dL_law_1463 rfl (lv_at hl 5 rfl) ?_
  refine lv_iconst (v := (0 : Int32)) hx hb dL_law_1464 (by decide) ?_
  refine ol_J hx hb hK hO dL_law_1465 ?_
  refine lv_iload hx hb dL_law_1466 (lv_at hl 0 rfl) ?_
  refine lv_i2l (v := b9.toInt64) hx hb dL_law_1468 rfl ?_
  refine W.lcmp hx hb dL_law_1469 ?_
  rw [lg_self]
  refine lv_if_eq (tgt := 1475) hx hb dL_law_1470 (by decide) (fun _ => ?_) (fun c7 => absurd rfl c7)
  refine lv_goto (tgt := 1824) hx hb dL_law_1475 (by decide) ?_
  exact K z w _ _ ls _ _ hR2 hW hO hS (lv_sub hl [2, 3, 4, 5, 6, 7] rfl)
def Sim_use (Rel : Nat → Mem → Mem → Prop) : Prop := ∀ (i : Nat) (x y : Mem) (p0 : Int32) , i < 512 → Rel i x y → ∃ (cd : Nat) (v : UInt32) (z : Mem) (b : UInt32) (w : Mem), m_X11_use p0 x = some (cd, v, z) ∧ m_X12_use p0 y = some (b, w) ∧ (cd = 0 ∨ cd = 1 ∨ cd = 6) ∧ w 40 0 0 0 = kO_use cd ∧ (cd = 0 → b = v) ∧ (cd = 0 → nn64 (FP.f2d v) = true) ∧ Rel (i + 1) z w
set_option maxHeartbeats 4000000 in
set_option maxRecDepth 100000 in
theorem lc_use {p : Program} {l : Launch} {e : Env} {s : State} {m : MethodId} {args : Array Value} {below : List Frame} {meth : Method} {c : Code} {Q : State → Prop} (hx : p.tables.exec = Jvm.exec) (hb : c.code = cL_law) (hml : c.maxLocals = 9) (hown : s.vm.findClass RL = some m.cls) (htg : ∀ w ∈ wsG, w.before args s = true) (hst : l.stackTraces = false) {G : Geo} (hXt : Xt s) (hK : Kt G s) (hZ0 : Zt G s s.heap) {b L : Nat} {xs : Nat → Int32} (hX : va_X b L xs s s.heap) (hbl : b < s.heap.size) {oJ oD : Nat} (hw : Ow G oJ oD) (hA0 : ∀ q, gW G oJ oD q → s.heap.size ≤ q) (hGA : ∀ q, s.heap.size ≤ q → q ≠ oJ → q ≠ oD → gF G q) {Rel : Nat → Mem → Mem → Prop} {i : Nat} (hi5 : i < 512) {x5 : Int32} (hi0 : vp_in x5 L) (hi : ∀ k : Nat, k < 7 → vp_in (x5 + Int32.ofNat k) L) {cells slots : Nat} (hc1 : cells + 3 ≤ 603072) (hc2 : slots + 18 ≤ 7202922) (hsim : Sim_use Rel) (K : ∀ (x y : Mem) (H : Heap) (locs : List Loc) (ls : Array Slot) (vj : Int64) (vd : UInt64), Rel (i + 1) x y → Wh G x y H → Oh G oJ oD vj vd H → va_S (LA s) s.heap H locs → lv_has ls 9 [(0, .ref b), (1, .ref (gA G 14 0 0)), (2, .ref (gA G 40 0 0)), (3, .ref oJ), (4, .ref oD), (5, .int x5)] → W p l e room_1 s m args below meth c H locs (cells + 3) (slots + 18) Q (F0 m 1824 ls [])) : ∀ (x y : Mem) (H : Heap) (locs : List Loc) (ls : Array Slot) (vj : Int64) (vd : UInt64), Rel i x y → Wh G x y H → Oh G oJ oD vj vd H → va_S (LA s) s.heap H locs → lv_has ls 9 [(0, .ref b), (1, .ref (gA G 14 0 0)), (2, .ref (gA G 40 0 0)), (3, .ref oJ), (4, .ref oD), (5, .int x5)] → W p l e room_1 s m args below meth c H locs cells slots Q (F0 m 1478 ls []) := by
  intro x y H locs ls vj vd hR hW hO hS hl
  refine va_forget (fun q hq => hS.2.2 q hq) ?_
  replace hS := LS_nil hS
  have hbA : ¬ LA s b := Nat.not_le.mpr hbl
  have hG : ∀ q, gF G q → s.heap.size ≤ q := fun q h => hA0 q (Or.inl h)
  obtain ⟨cd, v, z, b9, w, h1, h2, hcd, hT, hv, hnn, hR2⟩ := hsim i x y ((xs (x5 + (1 : Int32)).toNatClampNeg)) hi5 hR
  refine lv_aload_n hx hb dL_law_1478 rfl (lv_at hl 1 rfl) ?_
  refine lv_aload_n hx hb dL_law_1479 rfl (lv_at hl 0 rfl) ?_
  refine lv_iload hx hb dL_law_1480 (lv_at hl 5 rfl) ?_
  refine lv_iconst (v := (1 : Int32)) hx hb dL_law_1482 (by decide) ?_
  refine lv_iadd hx hb dL_law_1483 ?_
  refine va_sld hx hb hX hbl hbA hS (hi 1 (by decide)) dL_law_1484 ?_
  refine lv_aload hx hb dL_law_1485 (lv_at hl 4 rfl) ?_
  refine kw_use hx hb hml hown htg hst hXt (hZ0.law hS) (fun q hq => hGA q (Nat.le_trans hS.1 hq) (fun e9 => absurd hO.lt.1 (by rw [← e9]; omega)) (fun e9 => absurd hO.lt.2 (by rw [← e9]; omega))) hK hW hO hw hS hA0 h1 hcd hnn q1037 hl.1 (Nat.le_of_ble_eq_true rfl) (Nat.le_of_ble_eq_true rfl) (Nat.le_of_ble_eq_true rfl) ⟨hc1, hc2⟩ dL_law_1487 (fun H1 locs1 hW1 hO1 hS1 hk1 hz1 => ?_)
  refine va_forget (fun q hq => hS1.2.2 q hq) ?_
  replace hS := LS_nil hS1
  replace hW := hW1
  replace hO := hO1
  refine lv_istore (lv' := [(6, .int (kO_use cd)), (0, .ref b), (1, .ref (gA G 14 0 0)), (2, .ref (gA G 40 0 0)), (3, .ref oJ), (4, .ref oD), (5, .int x5)]) hx hb dL_law_1490 hl (by decide) rfl (fun ls hl => ?_)
  refine lv_aload_n hx hb dL_law_1492 rfl (lv_at hl 3 rfl) ?_
  refine lv_aload_n hx hb dL_law_1493 rfl (lv_at hl 1 rfl) ?_
  refine lv_iload hx hb dL_law_1494 (lv_at hl 6 rfl) ?_
  refine lv_iconst (v := (1 : Int32)) hx hb dL_law_1496 (by decide) ?_
  refine lv_iadd hx hb dL_law_1497 ?_
  refine va_sld hx hb hX hbl hbA hS (hi 1 (by decide)) dL_law_1498 ?_
  refine k_X12_use hx hb hml hown htg hK hW (va_S.rf (A := gF G)) h2 q1049 hl.1 (Nat.le_of_ble_eq_true rfl) (Nat.le_of_ble_eq_true rfl) (Nat.le_of_ble_eq_true rfl) ⟨hc1, hc2⟩ dL_law_1499 (fun H1 locs1 hW1 hS1 => ?_)
  replace hO := hO.call hw hS1
  replace hS := LS_step hS hS1 hG
  refine va_forget (fun q hq => hS.2.2 q hq) ?_
  replace hS := LS_nil hS
  replace hW := hW1
  refine lv_fstore (lv' := [(7, .float b9), (6, .int (kO_use cd)), (0, .ref b), (1, .ref (gA G 14 0 0)), (2, .ref (gA G 40 0 0)), (3, .ref oJ), (4, .ref oD), (5, .int x5)]) hx hb dL_law_1502 hl (by decide) rfl (fun ls hl => ?_)
  refine lv_aload_n hx hb dL_law_1504 rfl (lv_at hl 4 rfl) ?_
  refine k_X12_thrown hx hb hml hown htg hK hW (va_S.rf (A := gF G)) (show m_X12_thrown w = some (w 40 0 0 0) from rfl) q380 hl.1 (Nat.le_of_ble_eq_true rfl) (Nat.le_of_ble_eq_true rfl) (Nat.le_of_ble_eq_true rfl) ⟨hc1, hc2⟩ dL_law_1505 (fun H1 locs1 hW1 hS1 => ?_)
  replace hO := hO.call hw hS1
  replace hS := LS_step hS hS1 hG
  refine va_forget (fun q hq => hS.2.2 q hq) ?_
  replace hS := LS_nil hS
  replace hW := hW1
  refine lv_iload hx hb dL_law_1508 (lv_at hl 1 rfl) ?_
  refine lv_icmp_eq (tgt := 1515) hx hb dL_law_1510 (by decide) (fun _ => ?_) (fun c9 => absurd hT c9)
  refine lv_iload hx hb dL_law_1515 (lv_at hl 1 rfl) ?_
  refine lv_if_ne (tgt := 1553) hx hb dL_law_1517 (by decide) (fun _ => ?_) (fun c9 => ?_)
  · refine lv_goto (tgt := 1824) hx hb dL_law_1553 (by decide) ?_
    exact K z w _ _ ls _ _ hR2 hW hO hS (lv_sub hl [2, 3, 4, 5, 6, 7] rfl)
  have h09 : cd = 0 := by
    rcases hcd with rfl | rfl | rfl
    · rfl
    · exact absurd c9 (by decide)
    · exact absurd c9 (by decide)
  subst h09
  replace hv := hv rfl
  subst hv
  replace hnn := hnn rfl
  rw [if_pos rfl] at hO
  refine lv_aload hx hb dL_law_1520 (lv_at hl 6 rfl) ?_
  refine lv_iconst (v := (0 : Int32)) hx hb dL_law_1522 (by decide) ?_
  refine ol_D hx hb hK hO dL_law_1523 ?_
  refine lv_fload hx hb dL_law_1524 (lv_at hl 0 rfl) ?_
  refine lv_f2d hx hb dL_law_1526 (nn64_ok hnn) ?_
  refine lv_dcmp hx hb dL_law_1527 ?_
  rw [dc_self hnn]
  refine lv_if_eq (tgt := 1553) hx hb dL_law_1528 (by decide) (fun _ => ?_) (fun c7 => absurd rfl c7)
  refine lv_goto (tgt := 1824) hx hb dL_law_1553 (by decide) ?_
  exact K z w _ _ ls _ _ hR2 hW hO hS (lv_sub hl [2, 3, 4, 5, 6, 7] rfl)
def Sim_meanDuration (Rel : Nat → Mem → Mem → Prop) : Prop := ∀ (i : Nat) (x y : Mem) , i < 512 → Rel i x y → ∃ (cd : Nat) (v : UInt64) (z : Mem) (b : UInt64) (w : Mem), m_X11_meanDuration x = some (cd, v, z) ∧ m_X12_meanDuration y = some (b, w) ∧ (cd = 0 ∨ cd = 6) ∧ w 40 0 0 0 = kO_meanDuration cd ∧ (cd = 0 → b = v) ∧ (cd = 0 → nn64 v = true) ∧ Rel (i + 1) z w
set_option maxHeartbeats 4000000 in
set_option maxRecDepth 100000 in
theorem lc_meanDuration {p : Program} {l : Launch} {e : Env} {s : State} {m : MethodId} {args : Array Value} {below : List Frame} {meth : Method} {c : Code} {Q : State → Prop} (hx : p.tables.exec = Jvm.exec) (hb : c.code = cL_law) (hml : c.maxLocals = 9) (hown : s.vm.findClass RL = some m.cls) (htg : ∀ w ∈ wsG, w.before args s = true) (hst : l.stackTraces = false) {G : Geo} (hXt : Xt s) (hK : Kt G s) (hZ0 : Zt G s s.heap) {b L : Nat} {xs : Nat → Int32} (hX : va_X b L xs s s.heap) (hbl : b < s.heap.size) {oJ oD : Nat} (hw : Ow G oJ oD) (hA0 : ∀ q, gW G oJ oD q → s.heap.size ≤ q) (hGA : ∀ q, s.heap.size ≤ q → q ≠ oJ → q ≠ oD → gF G q) {Rel : Nat → Mem → Mem → Prop} {i : Nat} (hi5 : i < 512) {x5 : Int32} (hi0 : vp_in x5 L) (hi : ∀ k : Nat, k < 7 → vp_in (x5 + Int32.ofNat k) L) {cells slots : Nat} (hc1 : cells + 3 ≤ 603072) (hc2 : slots + 18 ≤ 7202922) (hsim : Sim_meanDuration Rel) (K : ∀ (x y : Mem) (H : Heap) (locs : List Loc) (ls : Array Slot) (vj : Int64) (vd : UInt64), Rel (i + 1) x y → Wh G x y H → Oh G oJ oD vj vd H → va_S (LA s) s.heap H locs → lv_has ls 9 [(0, .ref b), (1, .ref (gA G 14 0 0)), (2, .ref (gA G 40 0 0)), (3, .ref oJ), (4, .ref oD), (5, .int x5)] → W p l e room_1 s m args below meth c H locs (cells + 3) (slots + 18) Q (F0 m 1824 ls [])) : ∀ (x y : Mem) (H : Heap) (locs : List Loc) (ls : Array Slot) (vj : Int64) (vd : UInt64), Rel i x y → Wh G x y H → Oh G oJ oD vj vd H → va_S (LA s) s.heap H locs → lv_has ls 9 [(0, .ref b), (1, .ref (gA G 14 0 0)), (2, .ref (gA G 40 0 0)), (3, .ref oJ), (4, .ref oD), (5, .int x5)] → W p l e room_1 s m args below meth c H locs cells slots Q (F0 m 1556 ls []) := by
  intro x y H locs ls vj vd hR hW hO hS hl
  refine va_forget (fun q hq => hS.2.2 q hq) ?_
  replace hS := LS_nil hS
  have hbA : ¬ LA s b := Nat.not_le.mpr hbl
  have hG : ∀ q, gF G q → s.heap.size ≤ q := fun q h => hA0 q (Or.inl h)
  obtain ⟨cd, v, z, b9, w, h1, h2, hcd, hT, hv, hnn, hR2⟩ := hsim i x y  hi5 hR
  refine lv_aload_n hx hb dL_law_1556 rfl (lv_at hl 1 rfl) ?_
  refine lv_aload hx hb dL_law_1557 (lv_at hl 4 rfl) ?_
  refine kw_meanDuration hx hb hml hown htg hst hXt (hZ0.law hS) (fun q hq => hGA q (Nat.le_trans hS.1 hq) (fun e9 => absurd hO.lt.1 (by rw [← e9]; omega)) (fun e9 => absurd hO.lt.2 (by rw [← e9]; omega))) hK hW hO hw hS hA0 h1 hcd q1053 hl.1 (Nat.le_of_ble_eq_true rfl) (Nat.le_of_ble_eq_true rfl) (Nat.le_of_ble_eq_true rfl) ⟨hc1, hc2⟩ dL_law_1559 (fun H1 locs1 hW1 hO1 hS1 hk1 hz1 => ?_)
  refine va_forget (fun q hq => hS1.2.2 q hq) ?_
  replace hS := LS_nil hS1
  replace hW := hW1
  replace hO := hO1
  refine lv_istore (lv' := [(6, .int (kO_meanDuration cd)), (0, .ref b), (1, .ref (gA G 14 0 0)), (2, .ref (gA G 40 0 0)), (3, .ref oJ), (4, .ref oD), (5, .int x5)]) hx hb dL_law_1562 hl (by decide) rfl (fun ls hl => ?_)
  refine lv_aload_n hx hb dL_law_1564 rfl (lv_at hl 3 rfl) ?_
  refine k_X12_meanDuration hx hb hml hown htg hK hW (va_S.rf (A := gF G)) h2 q1061 hl.1 (Nat.le_of_ble_eq_true rfl) (Nat.le_of_ble_eq_true rfl) (Nat.le_of_ble_eq_true rfl) ⟨hc1, hc2⟩ dL_law_1565 (fun H1 locs1 hW1 hS1 => ?_)
  replace hO := hO.call hw hS1
  replace hS := LS_step hS hS1 hG
  refine va_forget (fun q hq => hS.2.2 q hq) ?_
  replace hS := LS_nil hS
  replace hW := hW1
  refine lv_dstore (lv' := [(7, .double b9), (6, .int (kO_meanDuration cd)), (0, .ref b), (1, .ref (gA G 14 0 0)), (2, .ref (gA G 40 0 0)), (3, .ref oJ), (4, .ref oD), (5, .int x5)]) hx hb dL_law_1568 hl (by decide) rfl (fun ls hl => ?_)
  refine lv_aload_n hx hb dL_law_1570 rfl (lv_at hl 4 rfl) ?_
  refine k_X12_thrown hx hb hml hown htg hK hW (va_S.rf (A := gF G)) (show m_X12_thrown w = some (w 40 0 0 0) from rfl) q380 hl.1 (Nat.le_of_ble_eq_true rfl) (Nat.le_of_ble_eq_true rfl) (Nat.le_of_ble_eq_true rfl) ⟨hc1, hc2⟩ dL_law_1571 (fun H1 locs1 hW1 hS1 => ?_)
  replace hO := hO.call hw hS1
  replace hS := LS_step hS hS1 hG
  refine va_forget (fun q hq => hS.2.2 q hq) ?_
  replace hS := LS_nil hS
  replace hW := hW1
  refine lv_iload hx hb dL_law_1574 (lv_at hl 1 rfl) ?_
  refine lv_icmp_eq (tgt := 1581) hx hb dL_law_1576 (by decide) (fun _ => ?_) (fun c9 => absurd hT c9)
  refine lv_iload hx hb dL_law_1581 (lv_at hl 1 rfl) ?_
  refine lv_if_ne (tgt := 1618) hx hb dL_law_1583 (by decide) (fun _ => ?_) (fun c9 => ?_)
  · refine lv_goto (tgt := 1824) hx hb dL_law_1618 (by decide) ?_
    exact K z w _ _ ls _ _ hR2 hW hO hS (lv_sub hl [2, 3, 4, 5, 6, 7] rfl)
  have h09 : cd = 0 := by
    rcases hcd with rfl | rfl
    · rfl
    · exact absurd c9 (by decide)
  subst h09
  replace hv := hv rfl
  subst hv
  replace hnn := hnn rfl
  rw [if_pos rfl] at hO
  refine lv_aload hx hb dL_law_1586 (lv_at hl 6 rfl) ?_
  refine lv_iconst (v := (0 : Int32)) hx hb dL_law_1588 (by decide) ?_
  refine ol_D hx hb hK hO dL_law_1589 ?_
  refine lv_dload hx hb dL_law_1590 (lv_at hl 0 rfl) ?_
  refine lv_dcmp hx hb dL_law_1592 ?_
  rw [dc_self hnn]
  refine lv_if_eq (tgt := 1618) hx hb dL_law_1593 (by decide) (fun _ => ?_) (fun c7 => absurd rfl c7)
  refine lv_goto (tgt := 1824) hx hb dL_law_1618 (by decide) ?_
  exact K z w _ _ ls _ _ hR2 hW hO hS (lv_sub hl [2, 3, 4, 5, 6, 7] rfl)
def Sim_feed (Rel : Nat → Mem → Mem → Prop) : Prop := ∀ (i : Nat) (x y : Mem) (p0 : Int32) , (∃ e : Int32, p0 = (e.toUInt32 % 65536).toInt32) → i < 512 → Rel i x y → ∃ (cd : Nat) (v : Int32) (z : Mem) (b : Int32) (w : Mem), m_X11_feed p0 x = some (cd, v, z) ∧ m_X12_feed p0 y = some (b, w) ∧ (cd = 0 ∨ cd = 3) ∧ w 40 0 0 0 = kO_feed cd ∧ (cd = 0 → b = v) ∧ Rel (i + 1) z w
set_option maxHeartbeats 4000000 in
set_option maxRecDepth 100000 in
theorem lc_feed {p : Program} {l : Launch} {e : Env} {s : State} {m : MethodId} {args : Array Value} {below : List Frame} {meth : Method} {c : Code} {Q : State → Prop} (hx : p.tables.exec = Jvm.exec) (hb : c.code = cL_law) (hml : c.maxLocals = 9) (hown : s.vm.findClass RL = some m.cls) (htg : ∀ w ∈ wsG, w.before args s = true) (hst : l.stackTraces = false) {G : Geo} (hXt : Xt s) (hK : Kt G s) (hZ0 : Zt G s s.heap) {b L : Nat} {xs : Nat → Int32} (hX : va_X b L xs s s.heap) (hbl : b < s.heap.size) {oJ oD : Nat} (hw : Ow G oJ oD) (hA0 : ∀ q, gW G oJ oD q → s.heap.size ≤ q) (hGA : ∀ q, s.heap.size ≤ q → q ≠ oJ → q ≠ oD → gF G q) {Rel : Nat → Mem → Mem → Prop} {i : Nat} (hi5 : i < 512) {x5 : Int32} (hi0 : vp_in x5 L) (hi : ∀ k : Nat, k < 7 → vp_in (x5 + Int32.ofNat k) L) {cells slots : Nat} (hc1 : cells + 3 ≤ 603072) (hc2 : slots + 18 ≤ 7202922) (hsim : Sim_feed Rel) (K : ∀ (x y : Mem) (H : Heap) (locs : List Loc) (ls : Array Slot) (vj : Int64) (vd : UInt64), Rel (i + 1) x y → Wh G x y H → Oh G oJ oD vj vd H → va_S (LA s) s.heap H locs → lv_has ls 9 [(0, .ref b), (1, .ref (gA G 14 0 0)), (2, .ref (gA G 40 0 0)), (3, .ref oJ), (4, .ref oD), (5, .int x5)] → W p l e room_1 s m args below meth c H locs (cells + 3) (slots + 18) Q (F0 m 1824 ls [])) : ∀ (x y : Mem) (H : Heap) (locs : List Loc) (ls : Array Slot) (vj : Int64) (vd : UInt64), Rel i x y → Wh G x y H → Oh G oJ oD vj vd H → va_S (LA s) s.heap H locs → lv_has ls 9 [(0, .ref b), (1, .ref (gA G 14 0 0)), (2, .ref (gA G 40 0 0)), (3, .ref oJ), (4, .ref oD), (5, .int x5)] → W p l e room_1 s m args below meth c H locs cells slots Q (F0 m 1621 ls []) := by
  intro x y H locs ls vj vd hR hW hO hS hl
  refine va_forget (fun q hq => hS.2.2 q hq) ?_
  replace hS := LS_nil hS
  have hbA : ¬ LA s b := Nat.not_le.mpr hbl
  have hG : ∀ q, gF G q → s.heap.size ≤ q := fun q h => hA0 q (Or.inl h)
  obtain ⟨cd, v, z, b9, w, h1, h2, hcd, hT, hv, hR2⟩ := hsim i x y (((xs (x5 + (1 : Int32)).toNatClampNeg).toUInt32 % 65536).toInt32) ⟨_, rfl⟩ hi5 hR
  refine lv_aload_n hx hb dL_law_1621 rfl (lv_at hl 1 rfl) ?_
  refine lv_aload_n hx hb dL_law_1622 rfl (lv_at hl 0 rfl) ?_
  refine lv_iload hx hb dL_law_1623 (lv_at hl 5 rfl) ?_
  refine lv_iconst (v := (1 : Int32)) hx hb dL_law_1625 (by decide) ?_
  refine lv_iadd hx hb dL_law_1626 ?_
  refine va_sld hx hb hX hbl hbA hS (hi 1 (by decide)) dL_law_1627 ?_
  refine lv_i2c hx hb dL_law_1628 rfl ?_
  refine lv_aload_n hx hb dL_law_1629 rfl (lv_at hl 3 rfl) ?_
  refine kw_feed hx hb hml hown htg hst hXt (hZ0.law hS) (fun q hq => hGA q (Nat.le_trans hS.1 hq) (fun e9 => absurd hO.lt.1 (by rw [← e9]; omega)) (fun e9 => absurd hO.lt.2 (by rw [← e9]; omega))) hK hW hO hw hS hA0 h1 hcd q1065 hl.1 (Nat.le_of_ble_eq_true rfl) (Nat.le_of_ble_eq_true rfl) (Nat.le_of_ble_eq_true rfl) ⟨hc1, hc2⟩ dL_law_1630 (fun H1 locs1 hW1 hO1 hS1 hk1 hz1 => ?_)
  refine va_forget (fun q hq => hS1.2.2 q hq) ?_
  replace hS := LS_nil hS1
  replace hW := hW1
  replace hO := hO1
  refine lv_istore (lv' := [(6, .int (kO_feed cd)), (0, .ref b), (1, .ref (gA G 14 0 0)), (2, .ref (gA G 40 0 0)), (3, .ref oJ), (4, .ref oD), (5, .int x5)]) hx hb dL_law_1633 hl (by decide) rfl (fun ls hl => ?_)
  refine lv_aload_n hx hb dL_law_1635 rfl (lv_at hl 3 rfl) ?_
  refine lv_aload_n hx hb dL_law_1636 rfl (lv_at hl 1 rfl) ?_
  refine lv_iload hx hb dL_law_1637 (lv_at hl 6 rfl) ?_
  refine lv_iconst (v := (1 : Int32)) hx hb dL_law_1639 (by decide) ?_
  refine lv_iadd hx hb dL_law_1640 ?_
  refine va_sld hx hb hX hbl hbA hS (hi 1 (by decide)) dL_law_1641 ?_
  refine lv_i2c hx hb dL_law_1642 rfl ?_
  refine k_X12_feed hx hb hml hown htg hK hW (va_S.rf (A := gF G)) h2 q1081 hl.1 (Nat.le_of_ble_eq_true rfl) (Nat.le_of_ble_eq_true rfl) (Nat.le_of_ble_eq_true rfl) ⟨hc1, hc2⟩ dL_law_1643 (fun H1 locs1 hW1 hS1 => ?_)
  replace hO := hO.call hw hS1
  replace hS := LS_step hS hS1 hG
  refine va_forget (fun q hq => hS.2.2 q hq) ?_
  replace hS := LS_nil hS
  replace hW := hW1
  refine lv_istore (lv' := [(7, .int b9), (6, .int (kO_feed cd)), (0, .ref b), (1, .ref (gA G 14 0 0)), (2, .ref (gA G 40 0 0)), (3, .ref oJ), (4, .ref oD), (5, .int x5)]) hx hb dL_law_1646 hl (by decide) rfl (fun ls hl => ?_)
  refine lv_aload_n hx hb dL_law_1648 rfl (lv_at hl 4 rfl) ?_
  refine k_X12_thrown hx hb hml hown htg hK hW (va_S.rf (A := gF G)) (show m_X12_thrown w = some (w 40 0 0 0) from rfl) q380 hl.1 (Nat.le_of_ble_eq_true rfl) (Nat.le_of_ble_eq_true rfl) (Nat.le_of_ble_eq_true rfl) ⟨hc1, hc2⟩ dL_law_1649 (fun H1 locs1 hW1 hS1 => ?_)
  replace hO := hO.call hw hS1
  replace hS := LS_step hS hS1 hG
  refine va_forget (fun q hq => hS.2.2 q hq) ?_
  replace hS := LS_nil hS
  replace hW := hW1
  refine lv_iload hx hb dL_law_1652 (lv_at hl 1 rfl) ?_
  refine lv_icmp_eq (tgt := 1659) hx hb dL_law_1654 (by decide) (fun _ => ?_) (fun c9 => absurd hT c9)
  refine lv_iload hx hb dL_law_1659 (lv_at hl 1 rfl) ?_
  refine lv_if_ne (tgt := 1676) hx hb dL_law_1661 (by decide) (fun _ => ?_) (fun c9 => ?_)
  · refine lv_goto (tgt := 1824) hx hb dL_law_1676 (by decide) ?_
    exact K z w _ _ ls _ _ hR2 hW hO hS (lv_sub hl [2, 3, 4, 5, 6, 7] rfl)
  have h09 : cd = 0 := by
    rcases hcd with rfl | rfl
    · rfl
    · exact absurd c9 (by decide)
  subst h09
  replace hv := hv rfl
  subst hv
  rw [if_pos rfl] at hO
  refine lv_aload_n hx hb dL_law_1664 rfl (lv_at hl 5 rfl) ?_
  refine lv_iconst (v := (0 : Int32)) hx hb dL_law_1665 (by decide) ?_
  refine ol_J hx hb hK hO dL_law_1666 ?_
  refine lv_iload hx hb dL_law_1667 (lv_at hl 0 rfl) ?_
  refine lv_i2l (v := b9.toInt64) hx hb dL_law_1669 rfl ?_
  refine W.lcmp hx hb dL_law_1670 ?_
  rw [lg_self]
  refine lv_if_eq (tgt := 1676) hx hb dL_law_1671 (by decide) (fun _ => ?_) (fun c7 => absurd rfl c7)
  refine lv_goto (tgt := 1824) hx hb dL_law_1676 (by decide) ?_
  exact K z w _ _ ls _ _ hR2 hW hO hS (lv_sub hl [2, 3, 4, 5, 6, 7] rfl)
def Sim_perform (Rel : Nat → Mem → Mem → Prop) : Prop := ∀ (i : Nat) (x y : Mem) , i < 512 → Rel i x y → ∃ (cd : Nat) (v : Int32) (z : Mem) (b : Int32) (w : Mem), m_X11_perform x = some (cd, v, z) ∧ m_X12_perform y = some (b, w) ∧ (cd = 0 ∨ cd = 4) ∧ w 40 0 0 0 = kO_perform cd ∧ (cd = 0 → b = v) ∧ Rel (i + 1) z w
set_option maxHeartbeats 4000000 in
set_option maxRecDepth 100000 in
theorem lc_perform {p : Program} {l : Launch} {e : Env} {s : State} {m : MethodId} {args : Array Value} {below : List Frame} {meth : Method} {c : Code} {Q : State → Prop} (hx : p.tables.exec = Jvm.exec) (hb : c.code = cL_law) (hml : c.maxLocals = 9) (hown : s.vm.findClass RL = some m.cls) (htg : ∀ w ∈ wsG, w.before args s = true) (hst : l.stackTraces = false) {G : Geo} (hXt : Xt s) (hK : Kt G s) (hZ0 : Zt G s s.heap) {b L : Nat} {xs : Nat → Int32} (hX : va_X b L xs s s.heap) (hbl : b < s.heap.size) {oJ oD : Nat} (hw : Ow G oJ oD) (hA0 : ∀ q, gW G oJ oD q → s.heap.size ≤ q) (hGA : ∀ q, s.heap.size ≤ q → q ≠ oJ → q ≠ oD → gF G q) {Rel : Nat → Mem → Mem → Prop} {i : Nat} (hi5 : i < 512) {x5 : Int32} (hi0 : vp_in x5 L) (hi : ∀ k : Nat, k < 7 → vp_in (x5 + Int32.ofNat k) L) {cells slots : Nat} (hc1 : cells + 3 ≤ 603072) (hc2 : slots + 18 ≤ 7202922) (hsim : Sim_perform Rel) (K : ∀ (x y : Mem) (H : Heap) (locs : List Loc) (ls : Array Slot) (vj : Int64) (vd : UInt64), Rel (i + 1) x y → Wh G x y H → Oh G oJ oD vj vd H → va_S (LA s) s.heap H locs → lv_has ls 9 [(0, .ref b), (1, .ref (gA G 14 0 0)), (2, .ref (gA G 40 0 0)), (3, .ref oJ), (4, .ref oD), (5, .int x5)] → W p l e room_1 s m args below meth c H locs (cells + 3) (slots + 18) Q (F0 m 1824 ls [])) : ∀ (x y : Mem) (H : Heap) (locs : List Loc) (ls : Array Slot) (vj : Int64) (vd : UInt64), Rel i x y → Wh G x y H → Oh G oJ oD vj vd H → va_S (LA s) s.heap H locs → lv_has ls 9 [(0, .ref b), (1, .ref (gA G 14 0 0)), (2, .ref (gA G 40 0 0)), (3, .ref oJ), (4, .ref oD), (5, .int x5)] → W p l e room_1 s m args below meth c H locs cells slots Q (F0 m 1679 ls []) := by
  intro x y H locs ls vj vd hR hW hO hS hl
  refine va_forget (fun q hq => hS.2.2 q hq) ?_
  replace hS := LS_nil hS
  have hbA : ¬ LA s b := Nat.not_le.mpr hbl
  have hG : ∀ q, gF G q → s.heap.size ≤ q := fun q h => hA0 q (Or.inl h)
  obtain ⟨cd, v, z, b9, w, h1, h2, hcd, hT, hv, hR2⟩ := hsim i x y  hi5 hR
  refine lv_aload_n hx hb dL_law_1679 rfl (lv_at hl 1 rfl) ?_
  refine lv_aload_n hx hb dL_law_1680 rfl (lv_at hl 3 rfl) ?_
  refine kw_perform hx hb hml hown htg hst hXt (hZ0.law hS) (fun q hq => hGA q (Nat.le_trans hS.1 hq) (fun e9 => absurd hO.lt.1 (by rw [← e9]; omega)) (fun e9 => absurd hO.lt.2 (by rw [← e9]; omega))) hK hW hO hw hS hA0 h1 hcd q1086 hl.1 (Nat.le_of_ble_eq_true rfl) (Nat.le_of_ble_eq_true rfl) (Nat.le_of_ble_eq_true rfl) ⟨hc1, hc2⟩ dL_law_1681 (fun H1 locs1 hW1 hO1 hS1 hk1 hz1 => ?_)
  refine va_forget (fun q hq => hS1.2.2 q hq) ?_
  replace hS := LS_nil hS1
  replace hW := hW1
  replace hO := hO1
  refine lv_istore (lv' := [(6, .int (kO_perform cd)), (0, .ref b), (1, .ref (gA G 14 0 0)), (2, .ref (gA G 40 0 0)), (3, .ref oJ), (4, .ref oD), (5, .int x5)]) hx hb dL_law_1684 hl (by decide) rfl (fun ls hl => ?_)
  refine lv_aload_n hx hb dL_law_1686 rfl (lv_at hl 3 rfl) ?_
  refine k_X12_perform hx hb hml hown htg hK hW (va_S.rf (A := gF G)) h2 q1172 hl.1 (Nat.le_of_ble_eq_true rfl) (Nat.le_of_ble_eq_true rfl) (Nat.le_of_ble_eq_true rfl) ⟨hc1, hc2⟩ dL_law_1687 (fun H1 locs1 hW1 hS1 => ?_)
  replace hO := hO.call hw hS1
  replace hS := LS_step hS hS1 hG
  refine va_forget (fun q hq => hS.2.2 q hq) ?_
  replace hS := LS_nil hS
  replace hW := hW1
  refine lv_istore (lv' := [(7, .int b9), (6, .int (kO_perform cd)), (0, .ref b), (1, .ref (gA G 14 0 0)), (2, .ref (gA G 40 0 0)), (3, .ref oJ), (4, .ref oD), (5, .int x5)]) hx hb dL_law_1690 hl (by decide) rfl (fun ls hl => ?_)
  refine lv_aload_n hx hb dL_law_1692 rfl (lv_at hl 4 rfl) ?_
  refine k_X12_thrown hx hb hml hown htg hK hW (va_S.rf (A := gF G)) (show m_X12_thrown w = some (w 40 0 0 0) from rfl) q380 hl.1 (Nat.le_of_ble_eq_true rfl) (Nat.le_of_ble_eq_true rfl) (Nat.le_of_ble_eq_true rfl) ⟨hc1, hc2⟩ dL_law_1693 (fun H1 locs1 hW1 hS1 => ?_)
  replace hO := hO.call hw hS1
  replace hS := LS_step hS hS1 hG
  refine va_forget (fun q hq => hS.2.2 q hq) ?_
  replace hS := LS_nil hS
  replace hW := hW1
  refine lv_iload hx hb dL_law_1696 (lv_at hl 1 rfl) ?_
  refine lv_icmp_eq (tgt := 1703) hx hb dL_law_1698 (by decide) (fun _ => ?_) (fun c9 => absurd hT c9)
  refine lv_iload hx hb dL_law_1703 (lv_at hl 1 rfl) ?_
  refine lv_if_ne (tgt := 1720) hx hb dL_law_1705 (by decide) (fun _ => ?_) (fun c9 => ?_)
  · refine lv_goto (tgt := 1824) hx hb dL_law_1720 (by decide) ?_
    exact K z w _ _ ls _ _ hR2 hW hO hS (lv_sub hl [2, 3, 4, 5, 6, 7] rfl)
  have h09 : cd = 0 := by
    rcases hcd with rfl | rfl
    · rfl
    · exact absurd c9 (by decide)
  subst h09
  replace hv := hv rfl
  subst hv
  rw [if_pos rfl] at hO
  refine lv_aload_n hx hb dL_law_1708 rfl (lv_at hl 5 rfl) ?_
  refine lv_iconst (v := (0 : Int32)) hx hb dL_law_1709 (by decide) ?_
  refine ol_J hx hb hK hO dL_law_1710 ?_
  refine lv_iload hx hb dL_law_1711 (lv_at hl 0 rfl) ?_
  refine lv_i2l (v := b9.toInt64) hx hb dL_law_1713 rfl ?_
  refine W.lcmp hx hb dL_law_1714 ?_
  rw [lg_self]
  refine lv_if_eq (tgt := 1720) hx hb dL_law_1715 (by decide) (fun _ => ?_) (fun c7 => absurd rfl c7)
  refine lv_goto (tgt := 1824) hx hb dL_law_1720 (by decide) ?_
  exact K z w _ _ ls _ _ hR2 hW hO hS (lv_sub hl [2, 3, 4, 5, 6, 7] rfl)
def Sim_undo (Rel : Nat → Mem → Mem → Prop) : Prop := ∀ (i : Nat) (x y : Mem) , i < 512 → Rel i x y → ∃ (cd : Nat) (v : Int32) (z : Mem) (b : Int32) (w : Mem), m_X11_undo x = some (cd, v, z) ∧ m_X12_undo y = some (b, w) ∧ (cd = 0 ∨ cd = 3) ∧ w 40 0 0 0 = kO_undo cd ∧ (cd = 0 → b = v) ∧ Rel (i + 1) z w
set_option maxHeartbeats 4000000 in
set_option maxRecDepth 100000 in
theorem lc_undo {p : Program} {l : Launch} {e : Env} {s : State} {m : MethodId} {args : Array Value} {below : List Frame} {meth : Method} {c : Code} {Q : State → Prop} (hx : p.tables.exec = Jvm.exec) (hb : c.code = cL_law) (hml : c.maxLocals = 9) (hown : s.vm.findClass RL = some m.cls) (htg : ∀ w ∈ wsG, w.before args s = true) (hst : l.stackTraces = false) {G : Geo} (hXt : Xt s) (hK : Kt G s) (hZ0 : Zt G s s.heap) {b L : Nat} {xs : Nat → Int32} (hX : va_X b L xs s s.heap) (hbl : b < s.heap.size) {oJ oD : Nat} (hw : Ow G oJ oD) (hA0 : ∀ q, gW G oJ oD q → s.heap.size ≤ q) (hGA : ∀ q, s.heap.size ≤ q → q ≠ oJ → q ≠ oD → gF G q) {Rel : Nat → Mem → Mem → Prop} {i : Nat} (hi5 : i < 512) {x5 : Int32} (hi0 : vp_in x5 L) (hi : ∀ k : Nat, k < 7 → vp_in (x5 + Int32.ofNat k) L) {cells slots : Nat} (hc1 : cells + 3 ≤ 603072) (hc2 : slots + 18 ≤ 7202922) (hsim : Sim_undo Rel) (K : ∀ (x y : Mem) (H : Heap) (locs : List Loc) (ls : Array Slot) (vj : Int64) (vd : UInt64), Rel (i + 1) x y → Wh G x y H → Oh G oJ oD vj vd H → va_S (LA s) s.heap H locs → lv_has ls 9 [(0, .ref b), (1, .ref (gA G 14 0 0)), (2, .ref (gA G 40 0 0)), (3, .ref oJ), (4, .ref oD), (5, .int x5)] → W p l e room_1 s m args below meth c H locs (cells + 3) (slots + 18) Q (F0 m 1824 ls [])) : ∀ (x y : Mem) (H : Heap) (locs : List Loc) (ls : Array Slot) (vj : Int64) (vd : UInt64), Rel i x y → Wh G x y H → Oh G oJ oD vj vd H → va_S (LA s) s.heap H locs → lv_has ls 9 [(0, .ref b), (1, .ref (gA G 14 0 0)), (2, .ref (gA G 40 0 0)), (3, .ref oJ), (4, .ref oD), (5, .int x5)] → W p l e room_1 s m args below meth c H locs cells slots Q (F0 m 1723 ls []) := by
  intro x y H locs ls vj vd hR hW hO hS hl
  refine va_forget (fun q hq => hS.2.2 q hq) ?_
  replace hS := LS_nil hS
  have hbA : ¬ LA s b := Nat.not_le.mpr hbl
  have hG : ∀ q, gF G q → s.heap.size ≤ q := fun q h => hA0 q (Or.inl h)
  obtain ⟨cd, v, z, b9, w, h1, h2, hcd, hT, hv, hR2⟩ := hsim i x y  hi5 hR
  refine lv_aload_n hx hb dL_law_1723 rfl (lv_at hl 1 rfl) ?_
  refine lv_aload_n hx hb dL_law_1724 rfl (lv_at hl 3 rfl) ?_
  refine kw_undo hx hb hml hown htg hst hXt (hZ0.law hS) (fun q hq => hGA q (Nat.le_trans hS.1 hq) (fun e9 => absurd hO.lt.1 (by rw [← e9]; omega)) (fun e9 => absurd hO.lt.2 (by rw [← e9]; omega))) hK hW hO hw hS hA0 h1 hcd q1215 hl.1 (Nat.le_of_ble_eq_true rfl) (Nat.le_of_ble_eq_true rfl) (Nat.le_of_ble_eq_true rfl) ⟨hc1, hc2⟩ dL_law_1725 (fun H1 locs1 hW1 hO1 hS1 hk1 hz1 => ?_)
  refine va_forget (fun q hq => hS1.2.2 q hq) ?_
  replace hS := LS_nil hS1
  replace hW := hW1
  replace hO := hO1
  refine lv_istore (lv' := [(6, .int (kO_undo cd)), (0, .ref b), (1, .ref (gA G 14 0 0)), (2, .ref (gA G 40 0 0)), (3, .ref oJ), (4, .ref oD), (5, .int x5)]) hx hb dL_law_1728 hl (by decide) rfl (fun ls hl => ?_)
  refine lv_aload_n hx hb dL_law_1730 rfl (lv_at hl 3 rfl) ?_
  refine k_X12_undo hx hb hml hown htg hK hW (va_S.rf (A := gF G)) h2 q1227 hl.1 (Nat.le_of_ble_eq_true rfl) (Nat.le_of_ble_eq_true rfl) (Nat.le_of_ble_eq_true rfl) ⟨hc1, hc2⟩ dL_law_1731 (fun H1 locs1 hW1 hS1 => ?_)
  replace hO := hO.call hw hS1
  replace hS := LS_step hS hS1 hG
  refine va_forget (fun q hq => hS.2.2 q hq) ?_
  replace hS := LS_nil hS
  replace hW := hW1
  refine lv_istore (lv' := [(7, .int b9), (6, .int (kO_undo cd)), (0, .ref b), (1, .ref (gA G 14 0 0)), (2, .ref (gA G 40 0 0)), (3, .ref oJ), (4, .ref oD), (5, .int x5)]) hx hb dL_law_1734 hl (by decide) rfl (fun ls hl => ?_)
  refine lv_aload_n hx hb dL_law_1736 rfl (lv_at hl 4 rfl) ?_
  refine k_X12_thrown hx hb hml hown htg hK hW (va_S.rf (A := gF G)) (show m_X12_thrown w = some (w 40 0 0 0) from rfl) q380 hl.1 (Nat.le_of_ble_eq_true rfl) (Nat.le_of_ble_eq_true rfl) (Nat.le_of_ble_eq_true rfl) ⟨hc1, hc2⟩ dL_law_1737 (fun H1 locs1 hW1 hS1 => ?_)
  replace hO := hO.call hw hS1
  replace hS := LS_step hS hS1 hG
  refine va_forget (fun q hq => hS.2.2 q hq) ?_
  replace hS := LS_nil hS
  replace hW := hW1
  refine lv_iload hx hb dL_law_1740 (lv_at hl 1 rfl) ?_
  refine lv_icmp_eq (tgt := 1747) hx hb dL_law_1742 (by decide) (fun _ => ?_) (fun c9 => absurd hT c9)
  refine lv_iload hx hb dL_law_1747 (lv_at hl 1 rfl) ?_
  refine lv_if_ne (tgt := 1764) hx hb dL_law_1749 (by decide) (fun _ => ?_) (fun c9 => ?_)
  · refine lv_goto (tgt := 1824) hx hb dL_law_1764 (by decide) ?_
    exact K z w _ _ ls _ _ hR2 hW hO hS (lv_sub hl [2, 3, 4, 5, 6, 7] rfl)
  have h09 : cd = 0 := by
    rcases hcd with rfl | rfl
    · rfl
    · exact absurd c9 (by decide)
  subst h09
  replace hv := hv rfl
  subst hv
  rw [if_pos rfl] at hO
  refine lv_aload_n hx hb dL_law_1752 rfl (lv_at hl 5 rfl) ?_
  refine lv_iconst (v := (0 : Int32)) hx hb dL_law_1753 (by decide) ?_
  refine ol_J hx hb hK hO dL_law_1754 ?_
  refine lv_iload hx hb dL_law_1755 (lv_at hl 0 rfl) ?_
  refine lv_i2l (v := b9.toInt64) hx hb dL_law_1757 rfl ?_
  refine W.lcmp hx hb dL_law_1758 ?_
  rw [lg_self]
  refine lv_if_eq (tgt := 1764) hx hb dL_law_1759 (by decide) (fun _ => ?_) (fun c7 => absurd rfl c7)
  refine lv_goto (tgt := 1824) hx hb dL_law_1764 (by decide) ?_
  exact K z w _ _ ls _ _ hR2 hW hO hS (lv_sub hl [2, 3, 4, 5, 6, 7] rfl)
def Sim_save (Rel : Nat → Mem → Mem → Prop) : Prop := ∀ (i : Nat) (x y : Mem), i < 512 → Rel i x y → ∃ (v : Int32) (z w : Mem), m_X11_save x = some (v, z) ∧ m_X12_save y = some (v, w) ∧ Rel (i + 1) z w
set_option maxHeartbeats 4000000 in
set_option maxRecDepth 100000 in
theorem lc_save {p : Program} {l : Launch} {e : Env} {s : State} {m : MethodId} {args : Array Value} {below : List Frame} {meth : Method} {c : Code} {Q : State → Prop} (hx : p.tables.exec = Jvm.exec) (hb : c.code = cL_law) (hml : c.maxLocals = 9) (hown : s.vm.findClass RL = some m.cls) (htg : ∀ w ∈ wsG, w.before args s = true) (hst : l.stackTraces = false) {G : Geo} (hXt : Xt s) (hK : Kt G s) (hZ0 : Zt G s s.heap) {b L : Nat} {xs : Nat → Int32} (hX : va_X b L xs s s.heap) (hbl : b < s.heap.size) {oJ oD : Nat} (hw : Ow G oJ oD) (hA0 : ∀ q, gW G oJ oD q → s.heap.size ≤ q) (hGA : ∀ q, s.heap.size ≤ q → q ≠ oJ → q ≠ oD → gF G q) {Rel : Nat → Mem → Mem → Prop} {i : Nat} (hi5 : i < 512) {x5 : Int32} (hi0 : vp_in x5 L) (hi : ∀ k : Nat, k < 7 → vp_in (x5 + Int32.ofNat k) L) {cells slots : Nat} (hc1 : cells + 3 ≤ 603072) (hc2 : slots + 18 ≤ 7202922) (hsim : Sim_save Rel) (K : ∀ (x y : Mem) (H : Heap) (locs : List Loc) (ls : Array Slot) (vj : Int64) (vd : UInt64), Rel (i + 1) x y → Wh G x y H → Oh G oJ oD vj vd H → va_S (LA s) s.heap H locs → lv_has ls 9 [(0, .ref b), (1, .ref (gA G 14 0 0)), (2, .ref (gA G 40 0 0)), (3, .ref oJ), (4, .ref oD), (5, .int x5)] → W p l e room_1 s m args below meth c H locs (cells + 3) (slots + 18) Q (F0 m 1824 ls [])) : ∀ (x y : Mem) (H : Heap) (locs : List Loc) (ls : Array Slot) (vj : Int64) (vd : UInt64), Rel i x y → Wh G x y H → Oh G oJ oD vj vd H → va_S (LA s) s.heap H locs → lv_has ls 9 [(0, .ref b), (1, .ref (gA G 14 0 0)), (2, .ref (gA G 40 0 0)), (3, .ref oJ), (4, .ref oD), (5, .int x5)] → W p l e room_1 s m args below meth c H locs cells slots Q (F0 m 1767 ls []) := by
  intro x y H locs ls vj vd hR hW hO hS hl
  refine va_forget (fun q hq => hS.2.2 q hq) ?_
  replace hS := LS_nil hS
  have hbA : ¬ LA s b := Nat.not_le.mpr hbl
  have hG : ∀ q, gF G q → s.heap.size ≤ q := fun q h => hA0 q (Or.inl h)
  obtain ⟨v, z, w, h1, h2, hR2⟩ := hsim i x y hi5 hR
  refine lv_aload_n hx hb dL_law_1767 rfl (lv_at hl 1 rfl) ?_
  refine k_X11_save hx hb hml hown htg hK hW (va_S.rf (A := gF G)) h1 q1231 hl.1 (Nat.le_of_ble_eq_true rfl) (Nat.le_of_ble_eq_true rfl) (Nat.le_of_ble_eq_true rfl) ⟨Nat.le_trans (Nat.le_add_right _ _) hc1, Nat.le_trans (Nat.le_add_right _ _) hc2⟩ dL_law_1768 (fun H1 locs1 hW1 hS1 => ?_)
  replace hO := hO.call hw hS1
  replace hS := LS_step hS hS1 hG
  refine va_forget (fun q hq => hS.2.2 q hq) ?_
  replace hS := LS_nil hS
  replace hW := hW1
  refine lv_aload_n hx hb dL_law_1771 rfl (lv_at hl 2 rfl) ?_
  refine k_X12_save hx hb hml hown htg hK hW (va_S.rf (A := gF G)) h2 q1235 hl.1 (Nat.le_of_ble_eq_true rfl) (Nat.le_of_ble_eq_true rfl) (Nat.le_of_ble_eq_true rfl) ⟨Nat.le_trans (Nat.le_add_right _ _) hc1, Nat.le_trans (Nat.le_add_right _ _) hc2⟩ dL_law_1772 (fun H1 locs1 hW1 hS1 => ?_)
  replace hO := hO.call hw hS1
  replace hS := LS_step hS hS1 hG
  refine va_forget (fun q hq => hS.2.2 q hq) ?_
  replace hS := LS_nil hS
  replace hW := hW1
  refine lv_icmp_eq (tgt := 1824) hx hb dL_law_1775 (by decide) (fun _ => ?_) (fun c9 => absurd rfl c9)
  refine W.widen (Nat.le_add_right _ 3) (Nat.le_add_right _ 18) ?_
  exact K z w _ _ ls _ _ hR2 hW hO hS (lv_sub hl [0, 1, 2, 3, 4, 5] rfl)
def Sim_restore (Rel : Nat → Mem → Mem → Prop) : Prop := ∀ (i : Nat) (x y : Mem) , i < 512 → Rel i x y → ∃ (cd : Nat) (v : Int32) (z : Mem) (b : Int32) (w : Mem), m_X11_restore x = some (cd, v, z) ∧ m_X12_restore y = some (b, w) ∧ (cd = 0 ∨ cd = 3) ∧ w 40 0 0 0 = kO_restore cd ∧ (cd = 0 → b = v) ∧ Rel (i + 1) z w
set_option maxHeartbeats 4000000 in
set_option maxRecDepth 100000 in
theorem lc_restore {p : Program} {l : Launch} {e : Env} {s : State} {m : MethodId} {args : Array Value} {below : List Frame} {meth : Method} {c : Code} {Q : State → Prop} (hx : p.tables.exec = Jvm.exec) (hb : c.code = cL_law) (hml : c.maxLocals = 9) (hown : s.vm.findClass RL = some m.cls) (htg : ∀ w ∈ wsG, w.before args s = true) (hst : l.stackTraces = false) {G : Geo} (hXt : Xt s) (hK : Kt G s) (hZ0 : Zt G s s.heap) {b L : Nat} {xs : Nat → Int32} (hX : va_X b L xs s s.heap) (hbl : b < s.heap.size) {oJ oD : Nat} (hw : Ow G oJ oD) (hA0 : ∀ q, gW G oJ oD q → s.heap.size ≤ q) (hGA : ∀ q, s.heap.size ≤ q → q ≠ oJ → q ≠ oD → gF G q) {Rel : Nat → Mem → Mem → Prop} {i : Nat} (hi5 : i < 512) {x5 : Int32} (hi0 : vp_in x5 L) (hi : ∀ k : Nat, k < 7 → vp_in (x5 + Int32.ofNat k) L) {cells slots : Nat} (hc1 : cells + 3 ≤ 603072) (hc2 : slots + 18 ≤ 7202922) (hsim : Sim_restore Rel) (K : ∀ (x y : Mem) (H : Heap) (locs : List Loc) (ls : Array Slot) (vj : Int64) (vd : UInt64), Rel (i + 1) x y → Wh G x y H → Oh G oJ oD vj vd H → va_S (LA s) s.heap H locs → lv_has ls 9 [(0, .ref b), (1, .ref (gA G 14 0 0)), (2, .ref (gA G 40 0 0)), (3, .ref oJ), (4, .ref oD), (5, .int x5)] → W p l e room_1 s m args below meth c H locs (cells + 3) (slots + 18) Q (F0 m 1824 ls [])) : ∀ (x y : Mem) (H : Heap) (locs : List Loc) (ls : Array Slot) (vj : Int64) (vd : UInt64), Rel i x y → Wh G x y H → Oh G oJ oD vj vd H → va_S (LA s) s.heap H locs → lv_has ls 9 [(0, .ref b), (1, .ref (gA G 14 0 0)), (2, .ref (gA G 40 0 0)), (3, .ref oJ), (4, .ref oD), (5, .int x5)] → W p l e room_1 s m args below meth c H locs cells slots Q (F0 m 1780 ls []) := by
  intro x y H locs ls vj vd hR hW hO hS hl
  refine va_forget (fun q hq => hS.2.2 q hq) ?_
  replace hS := LS_nil hS
  have hbA : ¬ LA s b := Nat.not_le.mpr hbl
  have hG : ∀ q, gF G q → s.heap.size ≤ q := fun q h => hA0 q (Or.inl h)
  obtain ⟨cd, v, z, b9, w, h1, h2, hcd, hT, hv, hR2⟩ := hsim i x y  hi5 hR
  refine lv_aload_n hx hb dL_law_1780 rfl (lv_at hl 1 rfl) ?_
  refine lv_aload_n hx hb dL_law_1781 rfl (lv_at hl 3 rfl) ?_
  refine kw_restore hx hb hml hown htg hst hXt (hZ0.law hS) (fun q hq => hGA q (Nat.le_trans hS.1 hq) (fun e9 => absurd hO.lt.1 (by rw [← e9]; omega)) (fun e9 => absurd hO.lt.2 (by rw [← e9]; omega))) hK hW hO hw hS hA0 h1 hcd q1240 hl.1 (Nat.le_of_ble_eq_true rfl) (Nat.le_of_ble_eq_true rfl) (Nat.le_of_ble_eq_true rfl) ⟨hc1, hc2⟩ dL_law_1782 (fun H1 locs1 hW1 hO1 hS1 hk1 hz1 => ?_)
  refine va_forget (fun q hq => hS1.2.2 q hq) ?_
  replace hS := LS_nil hS1
  replace hW := hW1
  replace hO := hO1
  refine lv_istore (lv' := [(6, .int (kO_restore cd)), (0, .ref b), (1, .ref (gA G 14 0 0)), (2, .ref (gA G 40 0 0)), (3, .ref oJ), (4, .ref oD), (5, .int x5)]) hx hb dL_law_1785 hl (by decide) rfl (fun ls hl => ?_)
  refine lv_aload_n hx hb dL_law_1787 rfl (lv_at hl 3 rfl) ?_
  refine k_X12_restore hx hb hml hown htg hK hW (va_S.rf (A := gF G)) h2 q1251 hl.1 (Nat.le_of_ble_eq_true rfl) (Nat.le_of_ble_eq_true rfl) (Nat.le_of_ble_eq_true rfl) ⟨hc1, hc2⟩ dL_law_1788 (fun H1 locs1 hW1 hS1 => ?_)
  replace hO := hO.call hw hS1
  replace hS := LS_step hS hS1 hG
  refine va_forget (fun q hq => hS.2.2 q hq) ?_
  replace hS := LS_nil hS
  replace hW := hW1
  refine lv_istore (lv' := [(7, .int b9), (6, .int (kO_restore cd)), (0, .ref b), (1, .ref (gA G 14 0 0)), (2, .ref (gA G 40 0 0)), (3, .ref oJ), (4, .ref oD), (5, .int x5)]) hx hb dL_law_1791 hl (by decide) rfl (fun ls hl => ?_)
  refine lv_aload_n hx hb dL_law_1793 rfl (lv_at hl 4 rfl) ?_
  refine k_X12_thrown hx hb hml hown htg hK hW (va_S.rf (A := gF G)) (show m_X12_thrown w = some (w 40 0 0 0) from rfl) q380 hl.1 (Nat.le_of_ble_eq_true rfl) (Nat.le_of_ble_eq_true rfl) (Nat.le_of_ble_eq_true rfl) ⟨hc1, hc2⟩ dL_law_1794 (fun H1 locs1 hW1 hS1 => ?_)
  replace hO := hO.call hw hS1
  replace hS := LS_step hS hS1 hG
  refine va_forget (fun q hq => hS.2.2 q hq) ?_
  replace hS := LS_nil hS
  replace hW := hW1
  refine lv_iload hx hb dL_law_1797 (lv_at hl 1 rfl) ?_
  refine lv_icmp_eq (tgt := 1804) hx hb dL_law_1799 (by decide) (fun _ => ?_) (fun c9 => absurd hT c9)
  refine lv_iload hx hb dL_law_1804 (lv_at hl 1 rfl) ?_
  refine lv_if_ne (tgt := 1821) hx hb dL_law_1806 (by decide) (fun _ => ?_) (fun c9 => ?_)
  · refine lv_goto (tgt := 1824) hx hb dL_law_1821 (by decide) ?_
    exact K z w _ _ ls _ _ hR2 hW hO hS (lv_sub hl [2, 3, 4, 5, 6, 7] rfl)
  have h09 : cd = 0 := by
    rcases hcd with rfl | rfl
    · rfl
    · exact absurd c9 (by decide)
  subst h09
  replace hv := hv rfl
  subst hv
  rw [if_pos rfl] at hO
  refine lv_aload_n hx hb dL_law_1809 rfl (lv_at hl 5 rfl) ?_
  refine lv_iconst (v := (0 : Int32)) hx hb dL_law_1810 (by decide) ?_
  refine ol_J hx hb hK hO dL_law_1811 ?_
  refine lv_iload hx hb dL_law_1812 (lv_at hl 0 rfl) ?_
  refine lv_i2l (v := b9.toInt64) hx hb dL_law_1814 rfl ?_
  refine W.lcmp hx hb dL_law_1815 ?_
  rw [lg_self]
  refine lv_if_eq (tgt := 1821) hx hb dL_law_1816 (by decide) (fun _ => ?_) (fun c7 => absurd rfl c7)
  refine lv_goto (tgt := 1824) hx hb dL_law_1821 (by decide) ?_
  exact K z w _ _ ls _ _ hR2 hW hO hS (lv_sub hl [2, 3, 4, 5, 6, 7] rfl)
