/-! the class: what throws -/
abbrev XG (X : String → Prop) : String → State → State → Prop := vx_X (fun (_ : Unit) => True) (fun E _ _ => X E) (fun _ => False)
def tkE (H0 H : Heap) : Prop := H0.size ≤ H.size ∧ ∀ q : Nat, q < H0.size → H[q]? = H0[q]?
theorem tkE.rf {H : Heap} : tkE H H := ⟨Nat.le_refl _, fun _ _ => rfl⟩
theorem tkE.tr {H0 H H1 : Heap} (h : tkE H0 H) (h1 : H.size ≤ H1.size) (h2 : ∀ q : Nat, q < H.size → H1[q]? = H[q]?) : tkE H0 H1 := ⟨Nat.le_trans h.1 h1, fun q hq => (h2 q (Nat.lt_of_lt_of_le hq h.1)).trans (h.2 q hq)⟩
theorem tkE.F {s t : State} {H : Heap} (h : tkE s.heap H) (ht : t.heap = H) : va_F (fun _ => False) s t := ⟨by rw [ht]; exact h.1, fun q hq _ => by rw [ht]; exact h.2 q hq⟩
theorem xl {T : Type} {S : Int32 × TS × T} {L : List (String × Int32)} {E : String} {k : Int32} (h : S.1 = k) (hm : (E, k) ∈ L) : (E, S.1) ∈ L := by rw [h]; exact hm
abbrev tkNm : List String := ["java/lang/RuntimeException", "java/lang/Exception"]
abbrev tkBa (cls : String) : List Cond := [Cond.castable cls cls, Cond.declares (Bundle.initS "java/lang/RuntimeException"), Cond.declares (Bundle.initS "java/lang/Exception"), Cond.declares (Bundle.initS "java/lang/Throwable")]
theorem tkBa.all {ac : Nat → ClassId} {A A2 : Nat → Prop} {dE : Nat} {s : State} {H H2 : Heap} {args : Array Value} {cls : String} (hF : tkF A s H) (hO : tkO ac A2 dE s H2) (hca : (cls, cls) ∈ tkCa) : ∀ w ∈ tkBa cls, w.before args s = true := by
  intro w hw
  rcases List.mem_cons.mp hw with rfl | hw
  · exact va_Nw.use rfl (hF.2.2.2 _ hca)
  rcases List.mem_cons.mp hw with rfl | hw
  · exact va_Nw.use rfl (hO.de _ (by decide))
  rcases List.mem_cons.mp hw with rfl | hw
  · exact va_Nw.use rfl (hO.de _ (by decide))
  cases List.mem_singleton.mp hw
  exact va_Nw.use rfl (hO.de _ (by decide))
theorem ng_299 : ∀ w ∈ (vx_atS RX4 299 "java/lang/ArithmeticException" tkNm).filter (fun w => !goodWord w), w ∈ tkBa "java/lang/ArithmeticException" := by decide +kernel
theorem ng_317 : ∀ w ∈ (vx_atS RX4 317 "java/lang/IndexOutOfBoundsException" tkNm).filter (fun w => !goodWord w), w ∈ tkBa "java/lang/IndexOutOfBoundsException" := by decide +kernel
theorem ng_59 : ∀ w ∈ (vx_atS RX4 59 "java/lang/IllegalArgumentException" tkNm).filter (fun w => !goodWord w), w ∈ tkBa "java/lang/IllegalArgumentException" := by decide +kernel
theorem ng_70 : ∀ w ∈ (vx_atS RX4 70 "java/lang/IllegalStateException" tkNm).filter (fun w => !goodWord w), w ∈ tkBa "java/lang/IllegalStateException" := by decide +kernel
theorem ng_81 : ∀ w ∈ (vx_atS RX4 81 "java/lang/UnsupportedOperationException" tkNm).filter (fun w => !goodWord w), w ∈ tkBa "java/lang/UnsupportedOperationException" := by decide +kernel
theorem ot_299 : ∀ w ∈ Cond.classLink RX4 295 "java/lang/ArithmeticException" :: Cond.initialized "java/lang/ArithmeticException" :: vx_atS RX4 299 "java/lang/ArithmeticException" tkNm, vx_ot w = true := by decide +kernel
theorem ot_317 : ∀ w ∈ Cond.classLink RX4 313 "java/lang/IndexOutOfBoundsException" :: Cond.initialized "java/lang/IndexOutOfBoundsException" :: vx_atS RX4 317 "java/lang/IndexOutOfBoundsException" tkNm, vx_ot w = true := by decide +kernel
theorem ot_59 : ∀ w ∈ Cond.classLink RX4 55 "java/lang/IllegalArgumentException" :: Cond.initialized "java/lang/IllegalArgumentException" :: vx_atS RX4 59 "java/lang/IllegalArgumentException" tkNm, vx_ot w = true := by decide +kernel
theorem ot_70 : ∀ w ∈ Cond.classLink RX4 66 "java/lang/IllegalStateException" :: Cond.initialized "java/lang/IllegalStateException" :: vx_atS RX4 70 "java/lang/IllegalStateException" tkNm, vx_ot w = true := by decide +kernel
theorem ot_81 : ∀ w ∈ Cond.classLink RX4 77 "java/lang/UnsupportedOperationException" :: Cond.initialized "java/lang/UnsupportedOperationException" :: vx_atS RX4 81 "java/lang/UnsupportedOperationException" tkNm, vx_ot w = true := by decide +kernel
section TKXC
variable {p : Program} {l : Launch} {e : Env} {R : Room} {s : State} {m : MethodId} {args : Array Value} {below : List Frame} {meth : Method} {c : Code} {H : Heap} {locs : List Loc} {cells slots : Nat}
variable {ac : Nat → ClassId} {dE : Nat} {y : MethodName} {bytes cc : ByteArray} {maxL nL mc ms MC MS n index pc : Nat} {ret : Option FieldType} {ws : List Cond} {rm : Room} {Ts : List Cond} {own C : String} {b : Addr} {As rest st0 : List Value} {ls : Array Slot} {I : State → Prop} {A : Nat → Prop} {X X2 : String → Prop} {Qc : Array Value → State → Outcome → State → Prop}
theorem tk_xo {E : String} {ce : Cell} {q9 : Addr} {H1 : Heap} {locs1 : List Loc} (hE : tkE s.heap H) (hno : ∀ x ∈ c.exceptionTable.toList, False) (hlocks : meth.locks = false) (hcm : cells ≤ MC) (hsm : slots ≤ MS) (hx : ∀ E, X E → X2 E) (hX : X E) (hz : H.size ≤ H1.size) (hq : ∀ q : Nat, q < H.size → H1[q]? = H[q]?) (hS1 : va_S A s.heap H1 locs1) (hce : H1[q9]? = some ce) (hcv : ce.vm = .none) (hcl : s.vm.findClass E = some ce.cls) : vx_W p l e R s m args below meth c H1 locs1 cells slots (vx_MQ below Qc (XG X2) args s MC MS A) (F0 m pc ls rest) q9 :=
  vx_out (pc := pc) (fun x hx => (hno x hx).elim) hlocks hce hcv hcl (fun t' ht' _ => ⟨(), trivial, hx E hX, (hE.tr hz hq).F ht'⟩) hS1.2.2 hcm hsm
theorem tk_xVq {post : Option Nat → Prop} (S : CallFix p m c cc nL s args Ts own) (hM : vx_Met l y ws rm (va_Pc (.ref b :: As) I) (va_Qq (fun r (_ : Unit) => post r) (fun _ _ => True) (fun _ => False)) (XG X) mc ms A) (cw : CallW R s args own C index y bytes maxL ret ws rm mc ms n) (hbl : ∀ U g mk a, I U → I (U.calling g mk a)) (hI : ∀ U : State, U.heap = H → s.WarmedH U.vm → I U) (hrc : ∃ cell : Cell, H[b]? = some cell ∧ cell.vm.isStatics = false ∧ s.vm.findClass C = some cell.cls)
    (hn : As.length = n) (hsize : ls.size = nL) (hst : st0 = As.reverse ++ .ref b :: rest) (hW : (rest.map fun v => v.category).sum ≤ 8) (hdg : decode cc pc = .ok (.invokevirtual index, 3)) (hf : cells + mc ≤ R.cells ∧ slots + ms ≤ R.slots) (hS : va_S A s.heap H locs) (hE : tkE s.heap H) (hno : ∀ x ∈ c.exceptionTable.toList, False) (hlocks : meth.locks = false) (hcm : cells + mc ≤ MC ∧ slots + ms ≤ MS) (hx : ∀ E, X E → X2 E)
    (kk : ∀ (r : Option Nat) (H1 : Heap) (locs1 : List Loc), post r → (∀ q : Nat, q < H.size → H1[q]? = H[q]?) → tkE s.heap H1 → va_S A s.heap H1 locs1 → W p l e R s m args below meth c H1 locs1 (cells + mc) (slots + ms) (vx_MQ below Qc (XG X2) args s MC MS A) (F0 m (pc + 3) ls (va_rf r :: rest))) : W p l e R s m args below meth c H locs cells slots (vx_MQ below Qc (XG X2) args s MC MS A) (F0 m pc ls st0) :=
  vx_callq (vx_runV (rest := rest) S hM cw ⟨fun a U g mk q => ⟨q.1, hbl U g mk a q.2⟩, hrc, fun U hU hW => ⟨rfl, hI U hU hW⟩⟩ rfl hn hsize hst (lv_room hW) hdg hf) hS (fun q _ h => h.elim) (fun q h => h) (fun q _ h => h.elim)
    (fun E ce q9 u t H1 locs1 ht hal _ hX hz hq hS1 hce hcv hcl => tk_xo hE hno hlocks hcm.1 hcm.2 hx hX hz (fun q h => hq q h (fun z => z)) hS1 hce hcv hcl)
    (fun r u t H1 locs1 ht hal hp _ hz hq hS1 => kk r H1 locs1 hp (fun q h => hq q h (fun z => z)) (hE.tr hz (fun q h => hq q h (fun z => z))) hS1)
theorem tk_xSq {post : Option Nat → Prop} (S : CallFix p m c cc nL s args Ts own) (hM : vx_Met l y ws rm (va_Pc As I) (va_Qq (fun r (_ : Unit) => post r) (fun _ _ => True) (fun _ => False)) (XG X) mc ms A) (cw : CallB R s args own index y bytes maxL ret ws rm mc ms n ∧ (Cond.static y).before args s = true) (hbl : ∀ U g mk a, I U → I (U.calling g mk a)) (hI : ∀ U : State, U.heap = H → s.WarmedH U.vm → I U)
    (hn : As.length = n) (hsize : ls.size = nL) (hst : st0 = As.reverse ++ rest) (hW : (rest.map fun v => v.category).sum ≤ 8) (hdg : decode cc pc = .ok (.invokestatic index, 3)) (hf : cells + mc ≤ R.cells ∧ slots + ms ≤ R.slots) (hS : va_S A s.heap H locs) (hE : tkE s.heap H) (hno : ∀ x ∈ c.exceptionTable.toList, False) (hlocks : meth.locks = false) (hcm : cells + mc ≤ MC ∧ slots + ms ≤ MS) (hx : ∀ E, X E → X2 E)
    (kk : ∀ (r : Option Nat) (H1 : Heap) (locs1 : List Loc), post r → (∀ q : Nat, q < H.size → H1[q]? = H[q]?) → tkE s.heap H1 → va_S A s.heap H1 locs1 → W p l e R s m args below meth c H1 locs1 (cells + mc) (slots + ms) (vx_MQ below Qc (XG X2) args s MC MS A) (F0 m (pc + 3) ls (va_rf r :: rest))) : W p l e R s m args below meth c H locs cells slots (vx_MQ below Qc (XG X2) args s MC MS A) (F0 m pc ls st0) :=
  vx_callq (vx_runS (rest := rest) S hM cw ⟨fun a U g mk q => ⟨q.1, hbl U g mk a q.2⟩, fun U hU hW => ⟨rfl, hI U hU hW⟩⟩ rfl hn hsize hst (lv_room hW) hdg hf) hS (fun q _ h => h.elim) (fun q h => h) (fun q _ h => h.elim)
    (fun E ce q9 u t H1 locs1 ht hal _ hX hz hq hS1 hce hcv hcl => tk_xo hE hno hlocks hcm.1 hcm.2 hx hX hz (fun q h => hq q h (fun z => z)) hS1 hce hcv hcl)
    (fun r u t H1 locs1 ht hal hp _ hz hq hS1 => kk r H1 locs1 hp (fun q h => hq q h (fun z => z)) (hE.tr hz (fun q h => hq q h (fun z => z))) hS1)
theorem tk_xSv {post : Prop} (S : CallFix p m c cc nL s args Ts own) (hM : vx_Met l y ws rm (va_Pc As I) (va_Qv (fun (_ : Unit) => post) (fun _ _ => True) (fun _ => False)) (XG X) mc ms A) (cw : CallB R s args own index y bytes maxL ret ws rm mc ms n ∧ (Cond.static y).before args s = true) (hbl : ∀ U g mk a, I U → I (U.calling g mk a)) (hI : ∀ U : State, U.heap = H → s.WarmedH U.vm → I U)
    (hn : As.length = n) (hsize : ls.size = nL) (hst : st0 = As.reverse ++ rest) (hW : (rest.map fun v => v.category).sum ≤ 8) (hdg : decode cc pc = .ok (.invokestatic index, 3)) (hf : cells + mc ≤ R.cells ∧ slots + ms ≤ R.slots) (hS : va_S A s.heap H locs) (hE : tkE s.heap H) (hno : ∀ x ∈ c.exceptionTable.toList, False) (hlocks : meth.locks = false) (hcm : cells + mc ≤ MC ∧ slots + ms ≤ MS) (hx : ∀ E, X E → X2 E)
    (kk : ∀ (H1 : Heap) (locs1 : List Loc), post → (∀ q : Nat, q < H.size → H1[q]? = H[q]?) → tkE s.heap H1 → va_S A s.heap H1 locs1 → W p l e R s m args below meth c H1 locs1 (cells + mc) (slots + ms) (vx_MQ below Qc (XG X2) args s MC MS A) (F0 m (pc + 3) ls rest)) : W p l e R s m args below meth c H locs cells slots (vx_MQ below Qc (XG X2) args s MC MS A) (F0 m pc ls st0) :=
  vx_callv (vx_runS (rest := rest) S hM cw ⟨fun a U g mk q => ⟨q.1, hbl U g mk a q.2⟩, fun U hU hW => ⟨rfl, hI U hU hW⟩⟩ rfl hn hsize hst (lv_room hW) hdg hf) hS (fun q _ h => h.elim) (fun q h => h) (fun q _ h => h.elim)
    (fun E ce q9 u t H1 locs1 ht hal _ hX hz hq hS1 hce hcv hcl => tk_xo hE hno hlocks hcm.1 hcm.2 hx hX hz (fun q h => hq q h (fun z => z)) hS1 hce hcv hcl)
    (fun u t H1 locs1 ht hal hp _ hz hq hS1 => kk H1 locs1 hp (fun q h => hq q h (fun z => z)) (hE.tr hz (fun q h => hq q h (fun z => z))) hS1)
theorem tk_thW {cls text : String} {ik is ic : Nat} (hst : l.stackTraces = false) (hexec : p.tables.exec = Jvm.exec) (hb : c.code = cc) (hown : s.vm.findClass RX4 = some m.cls) (hcls : Bundle.fit cls = true) (hk : (Cond.classLink RX4 ik cls).before args s = true) (hini : (Cond.initialized cls).before args s = true) (htx : (is, text) ∈ tkStr) (hca : (cls, cls) ∈ tkCa)
    (hat : ∀ w ∈ (vx_atS RX4 ic cls tkNm).filter goodWord, w.before args s = true) (ng : ∀ w ∈ (vx_atS RX4 ic cls tkNm).filter (fun w => !goodWord w), w ∈ tkBa cls) (ot : ∀ w ∈ Cond.classLink RX4 ik cls :: Cond.initialized cls :: vx_atS RX4 ic cls tkNm, vx_ot w = true)
    (hF : tkF A s s.heap) (hO : tkO ac A dE s s.heap) (hS : va_S A s.heap H locs) (hE : tkE s.heap H) (hsize : ls.size = c.maxLocals) (hno : ∀ x ∈ c.exceptionTable.toList, False) (hlocks : meth.locks = false)
    (d0 : decode cc pc = .ok (.new ik, 3)) (d3 : decode cc (pc + 3) = .ok (.dup, 1)) (d4 : decode cc (pc + 4) = .ok (.ldc_w is, 3)) (d7 : decode cc (pc + 7) = .ok (.invokespecial ic, 3)) (d10 : decode cc (pc + 10) = .ok (.athrow, 1))
    (hfr : 6 ≤ R.frames) (hlo : (rest.map fun v => v.category).sum + 82 ≤ R.locals) (hf : cells + 1 ≤ R.cells ∧ slots + 6 ≤ R.slots) (hcm : cells + 1 ≤ MC ∧ slots + 6 ≤ MS) (hx : X2 cls) : W p l e R s m args below meth c H locs cells slots (vx_MQ below Qc (XG X2) args s MC MS A) (F0 m pc ls rest) := by
  obtain ⟨sa, hsa⟩ := hF.2.2.1 _ htx
  exact vx_throwSW (names := tkNm) hexec hb hst hown hcls (by decide) hk hini hsa (vx_hat hat ng (tkBa.all hF hO hca)) ot hF.1 hF.2.1 hS hsize d0 d3 d4 d7 d10 (fun x hx => (hno x hx).elim) hfr hlo hf.1 hf.2 hlocks (fun t _ hz hq => ⟨(), trivial, hx, (hE.tr hz hq).F rfl⟩) hS.2.2 hcm.1 hcm.2
theorem tk_th {cls text : String} {ik is ic : Nat} (hst : l.stackTraces = false) (hexec : p.tables.exec = Jvm.exec) (hb : c.code = cc) (hown : s.vm.findClass RX4 = some m.cls) (hcls : Bundle.fit cls = true) (hk : (Cond.classLink RX4 ik cls).before args s = true) (hini : (Cond.initialized cls).before args s = true) (htx : (is, text) ∈ tkStr) (hca : (cls, cls) ∈ tkCa)
    (hat : ∀ w ∈ (vx_atS RX4 ic cls tkNm).filter goodWord, w.before args s = true) (ng : ∀ w ∈ (vx_atS RX4 ic cls tkNm).filter (fun w => !goodWord w), w ∈ tkBa cls) (ot : ∀ w ∈ Cond.classLink RX4 ik cls :: Cond.initialized cls :: vx_atS RX4 ic cls tkNm, vx_ot w = true)
    (hF : tkF A s s.heap) (hO : tkO ac A dE s s.heap) (hS : va_S A s.heap H locs) (hE : tkE s.heap H) (hsize : ls.size = c.maxLocals) (hno : ∀ x ∈ c.exceptionTable.toList, False) (hlocks : meth.locks = false)
    (d0 : decode cc pc = .ok (.new ik, 3)) (d3 : decode cc (pc + 3) = .ok (.dup, 1)) (d4 : decode cc (pc + 4) = .ok (.ldc is, 2)) (d6 : decode cc (pc + 6) = .ok (.invokespecial ic, 3)) (d9 : decode cc (pc + 9) = .ok (.athrow, 1))
    (hfr : 6 ≤ R.frames) (hlo : (rest.map fun v => v.category).sum + 82 ≤ R.locals) (hf : cells + 1 ≤ R.cells ∧ slots + 6 ≤ R.slots) (hcm : cells + 1 ≤ MC ∧ slots + 6 ≤ MS) (hx : X2 cls) : W p l e R s m args below meth c H locs cells slots (vx_MQ below Qc (XG X2) args s MC MS A) (F0 m pc ls rest) := by
  obtain ⟨sa, hsa⟩ := hF.2.2.1 _ htx
  exact vx_throwS (names := tkNm) hexec hb hst hown hcls (by decide) hk hini hsa (vx_hat hat ng (tkBa.all hF hO hca)) ot hF.1 hF.2.1 hS hsize d0 d3 d4 d6 d9 (fun x hx => (hno x hx).elim) hfr hlo hf.1 hf.2 hlocks (fun t _ hz hq => ⟨(), trivial, hx, (hE.tr hz hq).F rfl⟩) hS.2.2 hcm.1 hcm.2
end TKXC

/-! NoSuchElementException's throw: its constructor has a code of its own (follows the proof of Stand.ctorThrowS, BundleOwnThrow.lean, but for the link of its chain) -/
theorem nse_d0 : decode nseB 0 = .ok (.aload_n 0, 1) := by decide +kernel
theorem nse_d1 : decode nseB 1 = .ok (.aload_n 1, 1) := by decide +kernel
theorem nse_d2 : decode nseB 2 = .ok (.invokespecial 13, 3) := by decide +kernel
theorem nse_d5 : decode nseB 5 = .ok (.return_, 1) := by decide +kernel
theorem nse_t : ∀ w ∈ Bundle.throwableAtoms, w ∈ nseF := by decide +kernel
theorem nse_s : ∀ w ∈ Bundle.throwableSAtoms, w ∈ nseF := by decide +kernel
theorem nse_p : ∀ w ∈ Bundle.passSAtoms "java/util/NoSuchElementException" "java/lang/RuntimeException" 13 nseB, w ∈ nseF := by decide +kernel
theorem nse_c : ∀ w ∈ Bundle.chainSAtoms "java/lang/RuntimeException" ["java/lang/Exception"], w ∈ nseF := by decide +kernel
section NSE
variable {p : Program} {l : Launch} {e : Env} {R : Room} {s : State} {m₀ : MethodId} {args : Array Value} {below : List Frame} {meth : Method} {c : Code} {W : State} {locs : List Loc} {cells slots : Nat}
set_option maxHeartbeats 4000000 in
theorem nse_ctor (X : Stand p l e R s m₀ args below meth c W [] cells slots) (hexec : p.tables.exec = Jvm.exec) (htr : e.platform.stackTraces = false)
    (hown : s.vm.findClass RX4 = some m₀.cls) (h : ∀ a ∈ nseF, a.before args s = true)
    {a : Addr} {cX : ClassId} {kX : Class} (hfoundX : s.vm.findClass "java/util/NoSuchElementException" = some cX) (hkX : s.vm.classes[cX]? = some kX) (hcell : W.heap[a]? = some (freshCell cX kX)) (hnew : s.heap.size ≤ a)
    {msg : Value} (hmsg : msg.isRef = true)
    {g : JFrame} (hg : g.method = m₀) (hsize : g.locals.size = c.maxLocals) (hlocked : g.locked = none) (hentered : g.entered = []) {rest : List Value} (hstack : g.stack = msg :: .ref a :: .ref a :: rest)
    (hd6 : decode c.code g.pc = .ok (.invokespecial 149, 3)) (hd9 : decode c.code (g.pc + 3) = .ok (.athrow, 1)) (hout : ∀ x ∈ c.exceptionTable.toList, covers x (g.pc + 3) = false)
    (hRframes : 5 < R.frames) (hRlocals : 2 * g.monitorRoom + ((Value.ref a :: rest).map fun v => v.category).sum + 81 ≤ R.locals) (hlocks : meth.locks = false) :
    ∃ U : State, Steps p.tables e below (W.setTop g) U ∧ U.status = .running ∧ Ended U below (.threw a) ∧ s.WarmedH U.vm ∧ s.sameButNew ({ U with vm := s.vm } : State) [] cells slots ∧
      ∃ ce, U.heap[a]? = some ce ∧ ce.vm = .none ∧ ce.cls = cX := by
  have howns : e.platform.frameOwnsMonitors = true := by rw [X.admits.platform]
  have hfin : e.platform.finalization = false := by rw [X.admits.platform]
  have hpl : e.platform.magicAccessors = ({} : Platform).magicAccessors := by rw [X.admits.platform]
  have mem : ∀ w : Cond, (decide (w ∈ nseF)) = true → w.before args s = true := fun w q => h w (of_decide_eq_true q)
  obtain ⟨T, Z0, L, -, Y⟩ := ThrowableC.of_atoms (args := args) howns hfin hpl (fun x hx => h x (nse_t x hx))
  obtain ⟨Z, M, LZ, LM, hnZ⟩ := Init0T.ofS_atoms (args := args) hpl L Y (fun x hx => h x (nse_s x hx))
  obtain ⟨P1, L1, hP1m, hP1s⟩ := PassC.ofS_atoms (args := args) (s := s) hpl (X := "java/util/NoSuchElementException") (Y := "java/lang/RuntimeException") (by decide) (by decide) nse_d0 nse_d1 nse_d2 nse_d5 (fun w hw => h w (nse_p w hw))
  obtain ⟨P2, Ps, hlen, L2, hL, hP2m, hlink2, hlink⟩ := Bundle.chainS (args := args) hpl hnZ ["java/lang/Exception"] "java/lang/RuntimeException" (by decide) (by decide) (fun w hw => h w (nse_c w hw))
  have hlen : Ps.length = 1 := hlen
  have hlink1 : P1.sup = firstOf (Z.m T.toThrowableT) ((P2 :: Ps).map (·.toPassT)) := Option.some.inj (hP1s.symm.trans hP2m)
  have hfound : s.vm.findClass "java/util/NoSuchElementException" = some P1.m.cls := findClass_of_methodNamed hP1m
  cases Option.some.inj (hfoundX.symm.trans hfound)
  have wI : (Cond.instantiable "java/util/NoSuchElementException" 6).before args s = true := mem _ (by decide +kernel)
  obtain ⟨c1, kX', hc1, hk, hord, -, -, hn6⟩ := Cond.instantiable_spec wI
  cases Option.some.inj (hc1.symm.trans hfound)
  cases Option.some.inj (hkX.symm.trans hk)
  have wS0 : (Cond.selects "java/util/NoSuchElementException" Bundle.tFill0 Bundle.tFill0).before args s = true := mem _ (by decide +kernel)
  have wSF : (Cond.selects "java/util/NoSuchElementException" Bundle.tFill Bundle.tFill).before args s = true := mem _ (by decide +kernel)
  have hsel0 : selectMethod e.platform s.vm P1.m.cls T.fill0 = .method T.fill0 := by
    obtain ⟨c2, r2, m2, q1, q2, q3, q4, -⟩ := Cond.selects_spec wS0
    cases Option.some.inj (q1.symm.trans hfound)
    cases Option.some.inj (q2.symm.trans (State.methodFound?_of_named Y.fill0 (by decide)))
    cases Option.some.inj (q3.symm.trans Y.fill0)
    rw [Launch.admits_selectMethod X.admits]; exact q4
  have hselF : selectMethod e.platform s.vm P1.m.cls T.fill = .method T.fill := by
    obtain ⟨c2, r2, m2, q1, q2, q3, q4, -⟩ := Cond.selects_spec wSF
    cases Option.some.inj (q1.symm.trans hfound)
    cases Option.some.inj (q2.symm.trans (State.methodFound?_of_named Y.fill (by decide)))
    cases Option.some.inj (q3.symm.trans Y.fill)
    rw [Launch.admits_selectMethod X.admits]; exact q4
  obtain ⟨cellS0, hcS0, hiss⟩ := Y.statics
  obtain ⟨u0, hu0⟩ := Cond.staticRefV Y.unassigned L.unassignedStatic L.statics hcS0 hiss (mem (.isRef (.static Bundle.tN "UNASSIGNED_STACK" Bundle.steD)) (by decide +kernel))
  obtain ⟨sen, hsen⟩ := Cond.staticRefV Y.sentinel L.sentinelStatic L.statics hcS0 hiss (mem (.isRef (.static Bundle.tN "SUPPRESSED_SENTINEL" Bundle.listD)) (by decide +kernel))
  obtain ⟨ci198, i198, fB, hk198, hg198, ha198, hsB, -, hnB, htB, hffB⟩ := Cond.ownField (t := .object "java/lang/Object") Y.found L.cls (by decide +kernel) (mem (.fieldLink Bundle.tN 198 Bundle.tN "backtrace" "Ljava/lang/Object;") (by decide +kernel)) (mem (.lays Bundle.tN Bundle.tN "backtrace" "Ljava/lang/Object;") (by decide +kernel)) e.platform hpl
  obtain ⟨cellS, hcS', heS, -, hkeep⟩ := X.same.2.2.2.2.2 T.aS cellS0 hcS0
  have hcellS : W.heap[T.aS]? = some cellS := hcS'
  have hout' : ∀ i, (⟨T.aS, i⟩ : Loc) ∉ ([] : List Loc) := fun i hmem => nomatch hmem
  have hknownS : cellS.vm ≠ .unknown := by
    rw [heS]; intro hu
    rw [show cellS0.vm = .unknown from hu] at hiss
    cases hiss
  have hneS : T.aS ≠ a := Nat.ne_of_lt (Nat.lt_of_lt_of_le (Array.getElem?_eq_some_iff.mp hcS0).1 hnew)
  obtain ⟨iM, hffM⟩ := Y.msg
  obtain ⟨tyC, dC, hdC, hdnC⟩ := Cond.laysAt hfound hk Y.cause (mem (.lays "java/util/NoSuchElementException" Bundle.tN "cause" "Ljava/lang/Throwable;") (by decide +kernel))
  obtain ⟨tyS, dS, hdS, hdnS⟩ := Cond.laysAt hfound hk Y.stack (mem (.lays "java/util/NoSuchElementException" Bundle.tN "stackTrace" Bundle.steD) (by decide +kernel))
  obtain ⟨tyP, dP, hdP, hdnP⟩ := Cond.laysAt hfound hk Y.supp (mem (.lays "java/util/NoSuchElementException" Bundle.tN "suppressedExceptions" Bundle.listD) (by decide +kernel))
  obtain ⟨tyM, dM, hdM, hdnM⟩ := Cond.laysAt hfound hk hffM (mem (.lays "java/util/NoSuchElementException" Bundle.tN "detailMessage" "Ljava/lang/String;") (by decide +kernel))
  obtain ⟨tyB, dB, hdB, hdnB⟩ := Cond.laysAt hfound hk hffB (mem (.lays "java/util/NoSuchElementException" Bundle.tN "backtrace" "Ljava/lang/Object;") (by decide +kernel))
  have bC := Cond.laysApart hdB hdC hdnB hdnC (by rw [hnB, Y.causeName]; decide)
  have bS := Cond.laysApart hdB hdS hdnB hdnS (by rw [hnB, Y.stackName]; decide)
  have bP := Cond.laysApart hdB hdP hdnB hdnP (by rw [hnB, Y.suppName]; decide)
  have hskip : SkipFacts T e.platform s (fun u => u) u0 ((preparedCellV T.toThrowableT (freshCell P1.m.cls kX) a u0 sen).withEntry W.cur) :=
    ⟨{ ci198 := ci198, i198 := i198, fBack := fB }, ⟨hk198, hg198, ha198, hsB⟩, by
      have := fresh_default (c := P1.m.cls) tyB
      rw [htB] at this
      simpa [preparedCellV, Cell.setSlot, Cell.withEntry, Array.getElem?_setIfInBounds, bC, bS, bP, bC.symm, bS.symm, bP.symm, defaultValue] using this, fun _ _ => rfl⟩
  obtain ⟨tm, methC, cdC, kC, vm₁, hnC, -, -, -, -, -, -, -, hW₁, st1⟩ := Steps.initColdS (tb := p.tables) (e := e) (below := below) (s := s) (U := W) X.here hexec X.warmed hpl hown (t := Bundle.initS "java/util/NoSuchElementException") rfl rfl (by decide)
    (mem (.methodLink RX4 149 (Bundle.initS "java/util/NoSuchElementException")) (by decide +kernel)) (mem (.instanceMethod (Bundle.initS "java/util/NoSuchElementException")) (by decide +kernel)) (bytes := nseB) (maxL := 2) (mem (.code (Bundle.initS "java/util/NoSuchElementException") nseB 2 none) (by decide +kernel))
    (f := g) hg (a := a) (msg := msg) (rest := .ref a :: rest) hstack hd6
  cases Option.some.inj (hnC.symm.trans hP1m)
  have X₁ := X.noted hW₁
  obtain ⟨vm₂, X₂, st2⟩ := X₁.ctorMessageOffV hexec (g := { g with stack := .ref a :: rest }) hg hsize T L Z LZ M LM (P1 :: P2 :: Ps)
    (fun P hP => by
      rcases List.mem_cons.mp hP with rfl | hP
      · exact L1
      · rcases List.mem_cons.mp hP with rfl | hP
        · exact L2
        · exact hL P hP) ⟨hlink1, hlink2, hlink⟩ (u0 := u0) (sen := sen) (self := a) hmsg (cell := freshCell P1.m.cls kX) (cellS := cellS)
    hcell (fun _ => by simp) (by simp) rfl rfl hsel0 hselF hcellS hneS hknownS (by rw [hkeep _ (hout' _)]; exact hu0) (by rw [hkeep _ (hout' _)]; exact hsen)
    (Takes.of_laid hk hord tyC (by rw [Y.causeType]; rfl)) (Takes.of_laid hk hord tyS (by rw [Y.stackType]; exact fits_refV_array _ u0)) (Takes.of_laid hk hord tyP (by rw [Y.suppType]; exact fits_refV_object _ sen))
    (Takes.of_laid hk hord tyM (by rw [Y.msgType]; exact fits_refV_object _ ⟨msg, hmsg⟩)) Y.objLocals hskip htr [] hd6
    (by simp only [List.length_cons, hlen]; omega) (by simp only [List.length_cons, hlen]; exact hRlocals)
  obtain ⟨hwalk, hrun, hended, hWU, hsame⟩ := X₂.athrowLeaves hexec (g := { g with stack := .ref a :: rest, pc := g.pc + 3 }) hg hlocked hentered hout (a := a) (rest := rest) rfl hd9
  have hlt : a < ((W.setVm vm₁).setVm vm₂).heap.size := (Array.getElem?_eq_some_iff.mp hcell).1
  have hU := heapAt_setCell_self (s := (W.setVm vm₁).setVm vm₂) (plainBareV T.toThrowableT (freshCell P1.m.cls kX) a u0 sen msg) hlt
  refine ⟨_, st1 _ (fun acts => ?_), hrun, hended, hWU, hsame.weaken (fun y hy hlt' => ?_) (Nat.le_refl _) (Nat.le_refl _), _, hU, rfl, rfl⟩
  · rw [doInvoke_state]
    exact st2 _ hwalk
  · rcases List.mem_append.mp hy with h1 | h1
    · exact h1
    · exfalso
      have hb : y.base = a := by
        simp only [List.mem_cons, List.not_mem_nil, or_false] at h1
        rcases h1 with rfl | rfl | rfl | rfl | rfl <;> rfl
      rw [hb] at hlt'
      exact Nat.not_lt.mpr hnew hlt'
end NSE
theorem ng_149 : ∀ w ∈ nseA.filter (fun w => !goodWord w), w ∈ tkBa "java/util/NoSuchElementException" := by decide +kernel
theorem ot_149 : ∀ w ∈ Cond.classLink RX4 145 "java/util/NoSuchElementException" :: Cond.initialized "java/util/NoSuchElementException" :: nseA, vx_ot w = true := by decide +kernel
section NSE2
variable {p : Program} {l : Launch} {e : Env} {R : Room} {s : State} {m : MethodId} {args : Array Value} {below : List Frame} {meth : Method} {c : Code} {H : Heap} {locs : List Loc} {cells slots : Nat}
variable {ac : Nat → ClassId} {dE : Nat} {cc : ByteArray} {MC MS pc : Nat} {rest : List Value} {ls : Array Slot} {A : Nat → Prop} {X2 : String → Prop} {Qc : Array Value → State → Outcome → State → Prop}
theorem tk_ns {text : String} {is k : Nat} (hst : l.stackTraces = false) (hexec : p.tables.exec = Jvm.exec) (hb : c.code = cc) (hown : s.vm.findClass RX4 = some m.cls) (hk : (Cond.classLink RX4 145 "java/util/NoSuchElementException").before args s = true) (hini : (Cond.initialized "java/util/NoSuchElementException").before args s = true) (htx : (is, text) ∈ tkStr)
    (hat : ∀ w ∈ nseA.filter goodWord, w.before args s = true) (hF : tkF A s s.heap) (hO : tkO ac A dE s s.heap) (hS : va_S A s.heap H locs) (hE : tkE s.heap H) (hsize : ls.size = c.maxLocals) (hno : ∀ x ∈ c.exceptionTable.toList, False) (hlocks : meth.locks = false)
    (d0 : decode cc pc = .ok (.new 145, 3)) (d3 : decode cc (pc + 3) = .ok (.dup, 1)) (d4 : decode cc (pc + 4) = .ok (.ldc is, 2) ∧ k = 2 ∨ decode cc (pc + 4) = .ok (.ldc_w is, 3) ∧ k = 3) (d7 : decode cc (pc + 4 + k) = .ok (.invokespecial 149, 3)) (d10 : decode cc (pc + 4 + k + 3) = .ok (.athrow, 1))
    (hfr : 6 ≤ R.frames) (hlo : (rest.map fun v => v.category).sum + 82 ≤ R.locals) (hf : cells + 1 ≤ R.cells ∧ slots + 6 ≤ R.slots) (hcm : cells + 1 ≤ MC ∧ slots + 6 ≤ MS) (hx : X2 "java/util/NoSuchElementException") : W p l e R s m args below meth c H locs cells slots (vx_MQ below Qc (XG X2) args s MC MS A) (F0 m pc ls rest) := by
  obtain ⟨sa, hsa⟩ := hF.2.2.1 _ htx
  have hatA : ∀ w ∈ nseA, w.before args s = true := vx_hat hat ng_149 (tkBa.all hF hO (by decide))
  intro T hT X
  have htr : e.platform.stackTraces = false := (show e.platform.stackTraces = l.stackTraces by rw [X.admits.platform]).trans hst
  have Y := vx_rebase X (R' := { frames := R.frames, locals := R.locals, cells := 1, slots := 6 }) (Nat.le_refl _) (Nat.le_refl _) hf.1 hf.2
  obtain ⟨s', hA⟩ : ∃ z, z = (T.setVm s.vm).setFrames (.invoking m args :: below) := ⟨_, rfl⟩
  rw [← hA] at Y
  have hvm : s'.vm = s.vm := by rw [hA]; rfl
  have hhp : s'.heap = H := by rw [hA]; exact hT
  have hW0 : s.WarmedH s'.vm := by rw [hvm]; exact State.WarmedH.refl s
  have hat' : ∀ w ∈ nseF.filter vx_no, w.before args s' = true := fun w hw => vx_ot_at hW0 hvm.symm (ot_149 w (List.mem_cons_of_mem _ (List.mem_cons_of_mem _ hw))) (hatA w hw)
  have hk' : (Cond.classLink RX4 145 "java/util/NoSuchElementException").before args s' = true := vx_ot_at hW0 hvm.symm (ot_149 _ List.mem_cons_self) hk
  have hini' : (Cond.initialized "java/util/NoSuchElementException").before args s' = true := vx_ot_at hW0 hvm.symm (ot_149 _ (List.mem_cons_of_mem _ List.mem_cons_self)) hini
  have hU' : vx_Zq Bundle.tN "UNASSIGNED_STACK" Bundle.steD A s' s'.heap := by rw [hhp]; exact vx_Zq.moved hW0.alike (hF.1.kept hS.2.1)
  have hN' : vx_Zq Bundle.tN "SUPPRESSED_SENTINEL" Bundle.listD A s' s'.heap := by rw [hhp]; exact vx_Zq.moved hW0.alike (hF.2.1.kept hS.2.1)
  have h : ∀ w ∈ nseF, w.before args s' = true := vx_own hat' (vx_isRefq hU'.1) (vx_isRefq hN'.1) hU'.2.word hN'.2.word
  have hown' : s'.vm.findClass RX4 = some m.cls := by rw [hvm]; exact hown
  have hins : (Cond.instantiable "java/util/NoSuchElementException" 6).before args s' = true := h _ (by decide +kernel)
  obtain ⟨vm₁, cX, kX, hfX, hkX, -, -, X₁, st1⟩ := Y.newCold hexec (own := RX4) (C := "java/util/NoSuchElementException") (index := 145) (n := 6) hown' hk' hins hini'
    (g := F0 m pc ls rest) rfl (by rw [hb]; exact d0) (Nat.le_refl _) (Nat.le_refl _)
  generalize hT1 : (T.setVm vm₁).pushCell { cls := cX, slots := kX.instanceTypes.map defaultValue, vm := .none } = T1 at X₁ st1
  have hcat : (Value.ref T.heap.size).category = 1 := rfl
  have hcellA : T1.heap[T.heap.size]? = some (freshCell cX kX) := by rw [← hT1]; exact State.heap_pushCell_size _ _
  have d3' : decode c.code (pc + 3) = .ok (.dup, 1) := by rw [hb]; exact d3
  have hstr' : vk_R RX4 is text sa s' := vk_R.warm hW0 hsa
  obtain ⟨U, hsteps, hrun, hend, hW, hsame, ce, hce, hv, hcls⟩ := nse_ctor X₁ hexec htr hown' h hfX hkX hcellA (by rw [hhp, hT]; exact Nat.le_refl _) (msg := .ref sa) rfl
    (g := { method := m, pc := pc + 4 + k, locals := ls, stack := .ref sa :: .ref T.heap.size :: .ref T.heap.size :: rest, locked := none }) rfl hsize rfl rfl (rest := rest) rfl
    (by rw [hb]; exact d7) (by rw [hb]; exact d10) (fun x hx => (hno x hx).elim) hfr (by show 2 * 0 + ((Value.ref T.heap.size :: rest).map fun v => v.category).sum + 81 ≤ R.locals; simp only [List.map_cons, List.sum_cons, hcat]; omega) hlocks
  obtain ⟨f1, f2⟩ := vx_frame hsame
  rw [hhp] at f1 f2
  have hWs : s.WarmedH U.vm := State.WarmedH.trans hW0 hW
  have hcl : s.vm.findClass "java/util/NoSuchElementException" = some ce.cls := by
    rw [hcls, ← hvm]
    exact hfX
  have hall : s.sameButNew ({ U with vm := s.vm } : State) locs MC MS := by
    subst hA
    obtain ⟨e1, e2⟩ := hsame
    rw [State.setFrames_setFrames] at e1
    have h2 : (T.setVm s.vm).sameButNew ({ U with vm := s.vm } : State) [] (0 + 1) (0 + 6) := ⟨e1, e2⟩
    have h3 := X.same.trans h2
    rw [List.append_nil] at h3
    exact h3.mono hcm.1 hcm.2
  refine ⟨U, ?_, .threw T.heap.size, hrun, hend, Or.inr ⟨T.heap.size, rfl, "java/util/NoSuchElementException", ce, locs, ⟨(), trivial, hx, (hE.tr f1 (fun q hq => f2 q hq (fun z hz => nomatch hz))).F rfl⟩, hce, hv, hcl, hWs, hall, hS.2.2⟩⟩
  refine st1 _ ?_
  show Steps p.tables e below (T1.setTop { method := m, pc := pc + 3, locals := ls, stack := .ref T.heap.size :: rest, locked := none }) _
  jvm_step X₁.here [X₁.here.top, hexec, d3', Value.category]
  rcases d4 with ⟨d4, rfl⟩ | ⟨d4, rfl⟩
  · have d4' : decode c.code (pc + 4) = .ok (.ldc is, 2) := by rw [hb]; exact d4
    exact X₁.ldcString hexec (own := RX4) (text := text) (index := is) (a := sa) hown' hstr'.1 hstr'.2
      (g := { method := m, pc := pc + 4, locals := ls, stack := .ref T.heap.size :: .ref T.heap.size :: rest, locked := none }) rfl d4' _ hsteps
  · have d4' : decode c.code (pc + 4) = .ok (.ldc_w is, 3) := by rw [hb]; exact d4
    exact X₁.ldcStringW hexec (own := RX4) (text := text) (index := is) (a := sa) hown' hstr'.1 hstr'.2
      (g := { method := m, pc := pc + 4, locals := ls, stack := .ref T.heap.size :: .ref T.heap.size :: rest, locked := none }) rfl d4' _ hsteps
theorem tk_nsW {text : String} {is : Nat} (hst : l.stackTraces = false) (hexec : p.tables.exec = Jvm.exec) (hb : c.code = cc) (hown : s.vm.findClass RX4 = some m.cls) (hk : (Cond.classLink RX4 145 "java/util/NoSuchElementException").before args s = true) (hini : (Cond.initialized "java/util/NoSuchElementException").before args s = true) (htx : (is, text) ∈ tkStr)
    (hat : ∀ w ∈ nseA.filter goodWord, w.before args s = true) (hF : tkF A s s.heap) (hO : tkO ac A dE s s.heap) (hS : va_S A s.heap H locs) (hE : tkE s.heap H) (hsize : ls.size = c.maxLocals) (hno : ∀ x ∈ c.exceptionTable.toList, False) (hlocks : meth.locks = false)
    (d0 : decode cc pc = .ok (.new 145, 3)) (d3 : decode cc (pc + 3) = .ok (.dup, 1)) (d4 : decode cc (pc + 4) = .ok (.ldc_w is, 3)) (d7 : decode cc (pc + 7) = .ok (.invokespecial 149, 3)) (d10 : decode cc (pc + 10) = .ok (.athrow, 1))
    (hfr : 6 ≤ R.frames) (hlo : (rest.map fun v => v.category).sum + 82 ≤ R.locals) (hf : cells + 1 ≤ R.cells ∧ slots + 6 ≤ R.slots) (hcm : cells + 1 ≤ MC ∧ slots + 6 ≤ MS) (hx : X2 "java/util/NoSuchElementException") : W p l e R s m args below meth c H locs cells slots (vx_MQ below Qc (XG X2) args s MC MS A) (F0 m pc ls rest) :=
  tk_ns (k := 3) hst hexec hb hown hk hini htx hat hF hO hS hE hsize hno hlocks d0 d3 (Or.inr ⟨d4, rfl⟩) d7 d10 hfr hlo hf hcm hx
theorem tk_nsS {text : String} {is : Nat} (hst : l.stackTraces = false) (hexec : p.tables.exec = Jvm.exec) (hb : c.code = cc) (hown : s.vm.findClass RX4 = some m.cls) (hk : (Cond.classLink RX4 145 "java/util/NoSuchElementException").before args s = true) (hini : (Cond.initialized "java/util/NoSuchElementException").before args s = true) (htx : (is, text) ∈ tkStr)
    (hat : ∀ w ∈ nseA.filter goodWord, w.before args s = true) (hF : tkF A s s.heap) (hO : tkO ac A dE s s.heap) (hS : va_S A s.heap H locs) (hE : tkE s.heap H) (hsize : ls.size = c.maxLocals) (hno : ∀ x ∈ c.exceptionTable.toList, False) (hlocks : meth.locks = false)
    (d0 : decode cc pc = .ok (.new 145, 3)) (d3 : decode cc (pc + 3) = .ok (.dup, 1)) (d4 : decode cc (pc + 4) = .ok (.ldc is, 2)) (d6 : decode cc (pc + 6) = .ok (.invokespecial 149, 3)) (d9 : decode cc (pc + 9) = .ok (.athrow, 1))
    (hfr : 6 ≤ R.frames) (hlo : (rest.map fun v => v.category).sum + 82 ≤ R.locals) (hf : cells + 1 ≤ R.cells ∧ slots + 6 ≤ R.slots) (hcm : cells + 1 ≤ MC ∧ slots + 6 ≤ MS) (hx : X2 "java/util/NoSuchElementException") : W p l e R s m args below meth c H locs cells slots (vx_MQ below Qc (XG X2) args s MC MS A) (F0 m pc ls rest) :=
  tk_ns (k := 2) hst hexec hb hown hk hini htx hat hF hO hS hE hsize hno hlocks d0 d3 (Or.inl ⟨d4, rfl⟩) d6 d9 hfr hlo hf hcm hx
end NSE2
