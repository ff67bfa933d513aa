/-! contracts of methods of java.lang.Float: by 'plainFor' -/
theorem Met_ofWF {l : Launch} {y : MethodName} {ws ws' : List Cond} {rm : Room} {Pc : Array Value → State → Prop} {Qc : Array Value → State → Outcome → State → Prop} {mc ms : Nat} {free : Addr → Prop} {cc : ByteArray} {maxL : Nat} {ret : Option FieldType}
    (hy : plainFor y = true) (hw : ws = Cond.code y cc maxL ret :: ws')
    (body : ∀ p e s m args below meth c s₁, BodyLoose p l y (headSpec ws rm) cc maxL ret e s m args below meth c s₁ → c.maxLocals = maxL → Pc args s →
      W p l e (headSpec ws rm).room s m args below meth c s.heap [] 0 0 (MQ below Qc args s mc ms free) (entryFrame m args maxL)) : Met l y ws rm Pc Qc mc ms free := by
  refine MetFree.of_bodySF (code := cc) (maxLocals := maxL) (ret := ret) hy ?_ ?_
  · intro args s m h hn
    obtain ⟨meth, c, h1, h2, h3, h4, h5, h6, -, -⟩ := Cond.code_spec hn (atoms_spec (ws := ws) h _ (by rw [hw]; exact List.mem_cons_self))
    exact ⟨meth, c, h1, h2, h3, h4, h5, h6⟩
  · intro p e s m args below meth c s₁ B hml hP _
    have hh0 : s₁.heap = s.heap := by rw [B.state]; rfl
    obtain ⟨t, a1, o, b1, b2, b3⟩ := body p e s m args below meth c s₁ B hml hP s₁ hh0 (Stand.of_body B)
    exact ⟨t, o, a1, b1, b2, ⟨b3.1, b3.2⟩⟩
theorem cm_ofF {cc : ByteArray} {own : String} {sf : Nat → Shp} {ret : Option FieldType} {rm : Room} {M : Mm} {l : Launch} {Y : Sys} {t : Nat} {y : MethodName} {maxL : Nat} {As : List Value} {r : Option Value × Mm} (hY : SysOk Y t sf) (hy : plainFor y = true) (hc : y.cls = own) (hlen : (lg_sl As).length ≤ maxL)
    (body : ∀ E : Cx, CxOk E cc own sf ret rm maxL → E.Y = Y → E.t = t → E.l = l → E.r0 = r → Wx E 0 (lv_args 0 As) [] M) : Cm l Y t y (WS y cc maxL ret) rm As M r := by
  refine Met_ofWF (cc := cc) (maxL := maxL) (ret := ret) hy rfl ?_
  intro p e s m args below meth c s₁ B hml hv
  obtain ⟨rfl, hP, hK, hX⟩ := hv
  have hts := atoms_spec (ws := WS y cc maxL ret) B.pre
  have hown : s.vm.findClass own = some m.cls := by rw [← hc]; exact findClass_of_methodNamed B.named
  rw [lg_entry_eq]
  have h := body (Y, t, p, l, e, rm, s, m, As.toArray, below, meth, c, maxL, MQ below (Qp Y t r) As.toArray s 0 0 Y.A, r) ⟨⟨B.exec, B.bytes, hml, hown, B.returns, B.notSynchronized, rfl⟩, fun w hw => hts w (List.mem_cons_of_mem _ hw), hK, hY, hX, rfl, rfl⟩ rfl rfl rfl rfl
  exact h _ _ _ (lv_entry As hlen) hP va_S.rf
