/-! the search for a handler, the catch types' entries cold or warm -/
/-- what the search gives, and the tables that it leaves -/
def fh_To (e : Env) (s : State) (f : JFrame) (a : Addr) (es : List ExceptionTableEntry) (h : Handler) (vm' : Vm) : Prop :=
  ∀ (Q : Handler → Pre) (E : CtlPost) (d : Bool) (acts : List Action), wp (findHandler.go f a es) Q E e d acts s ↔ Q h d acts (s.setVm vm')
theorem fh_yes {e : Env} {s : State} {f : JFrame} {a : Addr} {x : ExceptionTableEntry} {t : List ExceptionTableEntry} {c : ClassId} {cell : Cell} (hx : covers x f.pc = true) (h0 : x.catchType ≠ 0)
    (hl : s.vm.ClassLinks e.platform f.method.cls x.catchType c) (hcell : s.heap[a]? = some cell) (hobj : ∀ k, cell.vm ≠ .statics k)
    (hk : ∃ k, s.vm.classes[cell.cls]? = some k) (hc : ∃ k, s.vm.classes[c]? = some k) (hfit : s.vm.assignable cell.cls c = true) :
    fh_To e s f a (x :: t) (.found x.handlerPc) (s.vm.noted f.method.cls x.catchType (.cls c)) := by
  intro Q E d acts
  simp only [covers] at hx
  obtain ⟨ha, ht⟩ := (resolveClass_links e.toSetting hl).op (op := VmOp.resolveClass f.method.cls x.catchType) rfl
  have hal : s.vm.Alike (s.vm.noted f.method.cls x.catchType (.cls c)) := (Vm.Alike.refl s.vm).noted _ _ _
  obtain ⟨k1, hk1⟩ := hk
  obtain ⟨k2, hk2⟩ := hc
  obtain ⟨k1', hk1', -⟩ := hal.2.2 _ _ hk1
  obtain ⟨k2', hk2', -⟩ := hal.2.2 _ _ hk2
  have hfit' : (s.vm.noted f.method.cls x.catchType (.cls c)).assignable cell.cls c = true := by rw [hal.assignable]; exact hfit
  simp [findHandler.go, hx, h0, ha, ht, hcell, hobj, hk1', hk2', hfit', VmOp.dirties, VmOp.acts]
theorem fh_no {e : Env} {s : State} {f : JFrame} {a : Addr} {x : ExceptionTableEntry} {t : List ExceptionTableEntry} {c : ClassId} {cell : Cell} {h : Handler} {vm' : Vm} (hx : covers x f.pc = true) (h0 : x.catchType ≠ 0)
    (hl : s.vm.ClassLinks e.platform f.method.cls x.catchType c) (hcell : s.heap[a]? = some cell) (hobj : ∀ k, cell.vm ≠ .statics k)
    (hk : ∃ k, s.vm.classes[cell.cls]? = some k) (hc : ∃ k, s.vm.classes[c]? = some k) (hfit : s.vm.assignable cell.cls c = false)
    (hr : fh_To e (s.setVm (s.vm.noted f.method.cls x.catchType (.cls c))) f a t h vm') : fh_To e s f a (x :: t) h vm' := by
  intro Q E d acts
  simp only [covers] at hx
  obtain ⟨ha, ht⟩ := (resolveClass_links e.toSetting hl).op (op := VmOp.resolveClass f.method.cls x.catchType) rfl
  have hal : s.vm.Alike (s.vm.noted f.method.cls x.catchType (.cls c)) := (Vm.Alike.refl s.vm).noted _ _ _
  obtain ⟨k1, hk1⟩ := hk
  obtain ⟨k2, hk2⟩ := hc
  obtain ⟨k1', hk1', -⟩ := hal.2.2 _ _ hk1
  obtain ⟨k2', hk2', -⟩ := hal.2.2 _ _ hk2
  have hfit' : (s.vm.noted f.method.cls x.catchType (.cls c)).assignable cell.cls c = false := by rw [hal.assignable]; exact hfit
  have hr' := hr Q E d acts
  simp [findHandler.go, hx, h0, ha, ht, hcell, hobj, hk1', hk2', hfit', VmOp.dirties, VmOp.acts]
  exact hr'
theorem fh_search {s : State} {e : Env} {m : MethodId} {args : Array Value} {own : String} (hpl : e.platform.magicAccessors = ({} : Platform).magicAccessors) (hown : s.vm.findClass own = some m.cls) {g : JFrame} (hg : g.method = m) {a : Addr} {cell : Cell} (hobj : cell.vm.isStatics = false) (hcc : ∃ k, s.vm.classes[cell.cls]? = some k) {x : ExceptionTableEntry} {name : String} (hx : covers x g.pc = true) (h0 : x.catchType ≠ 0) (hlink : (Cond.classLink own x.catchType name).before args s = true) (hfit : ∀ c, s.vm.findClass name = some c → s.vm.assignable cell.cls c = true) (rest : List ExceptionTableEntry) :
    ∀ (pre : List (ExceptionTableEntry × String)), (∀ q ∈ pre, covers q.1 g.pc = true ∧ q.1.catchType ≠ 0 ∧ (Cond.classLink own q.1.catchType q.2).before args s = true ∧ ∀ c, s.vm.findClass q.2 = some c → s.vm.assignable cell.cls c = false) → ∀ (u : State), s.WarmedH u.vm → u.heap[a]? = some cell → ∃ vm', s.WarmedH vm' ∧ fh_To e u g a (pre.map (·.1) ++ x :: rest) (.found x.handlerPc) vm' := by
  subst hg
  have hob : ∀ k, cell.vm ≠ .statics k := fun k h => by rw [h] at hobj; cases hobj
  have one : ∀ (y : ExceptionTableEntry) (nm : String), (Cond.classLink own y.catchType nm).before args s = true → ∀ u : State, s.WarmedH u.vm → ∃ c, s.vm.findClass nm = some c ∧ u.vm.ClassLinks e.platform g.method.cls y.catchType c ∧ (∃ k, u.vm.classes[c]? = some k) ∧ s.WarmedH (u.vm.noted g.method.cls y.catchType (.cls c)) := by
    intro y nm hl u hW
    obtain ⟨c', hc', hcl⟩ := Cond.classLink_spec hown hl e.platform hpl
    obtain ⟨dk, _, _, kt, hd, _, _, _, _, hkt, _, hopen⟩ := hcl.here
    obtain ⟨kt', hkt', -⟩ := hW.alike.2.2 _ _ hkt
    exact ⟨c', hc', hW.classLinks hcl, ⟨kt', hkt'⟩, hW.noted hd hopen (State.rightAt_cls hcl)⟩
  intro pre
  induction pre with
  | nil =>
    intro _ u hW hcell
    obtain ⟨c, hc, hcl, hkc, hWn⟩ := one x name hlink u hW
    obtain ⟨k0, hk0⟩ := hcc
    obtain ⟨k0', hk0', -⟩ := hW.alike.2.2 _ _ hk0
    exact ⟨_, hWn, fh_yes hx h0 hcl hcell hob ⟨k0', hk0'⟩ hkc (by rw [hW.alike.assignable]; exact hfit c hc)⟩
  | cons q qs ih =>
    intro hq u hW hcell
    obtain ⟨q1, q2, q3, q4⟩ := hq q List.mem_cons_self
    obtain ⟨c, hc, hcl, hkc, hWn⟩ := one q.1 q.2 q3 u hW
    obtain ⟨k0, hk0⟩ := hcc
    obtain ⟨k0', hk0', -⟩ := hW.alike.2.2 _ _ hk0
    obtain ⟨vm', h1, h2⟩ := ih (fun z hz => hq z (List.mem_cons_of_mem _ hz)) (u.setVm (u.vm.noted g.method.cls q.1.catchType (.cls c))) hWn hcell
    exact ⟨vm', h1, fh_no q1 q2 hcl hcell hob ⟨k0', hk0'⟩ hkc (by rw [hW.alike.assignable]; exact q4 c hc) h2⟩
theorem fh_step {e : Env} {s : State} {a : Addr} {f : JFrame} {r : List Frame} {pc : Nat} {vm' : Vm} {meth : Method} {code : Code} (hm : s.vm.method? f.method = some meth) (hc : meth.code = some code) (hfind : fh_To e s f a code.exceptionTable.toList (.found pc) vm') :
    (stepThrowing e s a (.java f :: r)).Is ((s.setVm vm').setFrames (.java { f with pc := pc, stack := [.ref a] } :: r)) [] := by
  have hfind' : ∀ (Q : Handler → Pre) (E : CtlPost) (d : Bool) (acts : List Action), wp (findHandler f a) Q E e d acts s ↔ Q (.found pc) d acts (s.setVm vm') := by
    intro Q E d acts
    rw [W.findHandler_eq hm hc]
    exact hfind Q E d acts
  simp only [stepThrowing, searchFrame, vmDo]
  generalize hr : Sem.go _ e false [] s = res
  obtain ⟨as, rfl, ha⟩ := Sem.eq_ok_of hr (a := Handler.found pc) (s' := s.setVm vm') (acts' := []) (by simp [hfind' _ _ _ _])
  exact ⟨rfl, ha⟩
/-- the walk goes on at the handler -/
theorem fh_caught {p : Program} {l : Launch} {e : Env} {R : Room} {s : State} {m : MethodId} {args : Array Value} {below : List Frame} {meth : Method} {c : Code} {T : State} {locs : List Loc} {cells slots : Nat} (X : Stand p l e R s m args below meth c T locs cells slots) (a : Addr) {g : JFrame} (hg : g.method = m) {pc : Nat} {vm' : Vm} (hW : s.WarmedH vm')
    (hfind : fh_To e ((T.setTop g).pushFrame (.throwing a)) g a c.exceptionTable.toList (.found pc) vm') :
    Stand p l e R s m args below meth c (T.setVm vm') locs cells slots ∧ ∀ target, Steps p.tables e below ((T.setVm vm').setTop { g with pc := pc, stack := [.ref a] }) target → Steps p.tables e below ((T.setTop g).pushFrame (.throwing a)) target := by
  refine ⟨X.noted hW, fun target hrest => ?_⟩
  have h : At T g.method c below := by rw [hg]; exact X.here
  obtain ⟨hgo, hw⟩ := h.throwing a
  refine Steps.head hgo hw ?_
  rw [stepThread_throwing (frames_entered h.top _), (fh_step (s := (T.setTop g).pushFrame (.throwing a)) (meth := meth) (code := c) (by rw [hg]; exact X.method') X.code hfind).1]
  obtain ⟨g₀, hg0⟩ := Option.isSome_iff_exists.mp h.top
  obtain ⟨r, hr⟩ := State.topJava?_eq_some.mp hg0
  have hr' : (T.setVm vm').frames = .java g₀ :: r := hr
  have hff : ∀ (u : State) (v : Vm) (F G : List Frame), ((u.setFrames F).setVm v).setFrames G = (u.setVm v).setFrames G := fun u v F G => by
    have h1 : (u.setFrames F).setVm v = (u.setVm v).setFrames F := rfl
    rw [h1, State.setFrames_setFrames]
  rw [State.setTop_of_frames _ hr'] at hrest
  rw [hr, List.tail_cons, State.pushFrame, hff, State.setTop_of_frames _ hr, hff]
  exact hrest
