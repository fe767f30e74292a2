/-! throws: the walk seen from here on, as if the method had been called in this heap -/
theorem ar_rebase {p : Program} {l : Launch} {e : Env} {R : Room} {s : State} {m : MethodId} {args : Array Value} {below : List Frame} {meth : Method} {c : Code} {T : State} {locs : List Loc} {cells slots : Nat}
    (X : Stand p l e R s m args below meth c T locs cells slots) {R2 : Room} (hf : R2.frames ≤ R.frames) (hl : R2.locals ≤ R.locals) (hc : cells + R2.cells ≤ R.cells) (hs : slots + R2.slots ≤ R.slots) :
    Stand p l e R2 ((T.setVm s.vm).setFrames (.invoking m args :: below)) m args below meth c T [] 0 0 := by
  have htop : (T.setVm s.vm).topJava?.isSome := X.here.top
  have hcur : (T.setVm s.vm).cur < (T.setVm s.vm).threads.size := State.cur_lt_of_top htop
  have hF : ((T.setVm s.vm).setFrames (.invoking m args :: below)).frames = .invoking m args :: below := State.frames_setFrames _ hcur
  have hmeth : ((T.setVm s.vm).setFrames (.invoking m args :: below)).vm.method? m = some meth := X.method
  refine ⟨X.admits, X.cas, X.clock, hF, ?_, X.hears, hmeth, X.code, X.here, X.tail, X.warmed, ?_, ?_, ?_⟩
  · have hr := X.room
    have hb := X.book
    have h1 := X.cellsAbove (n := R2.cells) hc
    have h2 := X.slotsAbove (n := R2.slots) hs
    have e1 := State.localsInUse_invoking X.frames X.method X.code
    have e2 := State.localsInUse_invoking hF hmeth X.code
    have e3 : ((T.setVm s.vm).setFrames (.invoking m args :: below)).localsInUse = s.localsInUse := by rw [e1, e2]
    have e4 : ((T.setVm s.vm).setFrames (.invoking m args :: below)).frames.length = s.frames.length := by rw [hF, X.frames]
    have e5 : e.platform.stackLimits ((T.setVm s.vm).setFrames (.invoking m args :: below)).me = e.platform.stackLimits s.me := by rw [State.stackLimits_setFrames]; exact X.limits
    have e6 : ((T.setVm s.vm).setFrames (.invoking m args :: below)).me.stackBytes = s.me.stackBytes := by rw [State.stackBytes_setFrames]; exact X.bytes
    simp only [State.hasRoom, Bool.and_eq_true, decide_eq_true_eq] at hr ⊢
    rw [e3, e4, e5, e6]
    obtain ⟨⟨⟨⟨a1, a2⟩, a3⟩, a4⟩, a5⟩ := hr
    exact ⟨⟨⟨⟨by omega, by omega, by omega, by omega, by omega, a2.2.2.2.2⟩, h1⟩, h2⟩, hb⟩
  · rw [State.stackLimits_setFrames]; rfl
  · rw [State.stackBytes_setFrames]; rfl
  · obtain ⟨t, ht, -⟩ := State.frames_cons hF
    have hcur2 : ((T.setVm s.vm).setFrames (.invoking m args :: below)).cur < ((T.setVm s.vm).setFrames (.invoking m args :: below)).threads.size := State.cur_lt_of_frames hF
    have h := (State.sameButNew.refl ((T.setVm s.vm).setFrames (.invoking m args :: below)) ht).setFrames (T.setVm s.vm).frames hcur2
    obtain ⟨g0, hg0⟩ := Option.isSome_iff_exists.mp htop
    obtain ⟨r, hr⟩ := State.topJava?_eq_some.mp hg0
    obtain ⟨t2, ht2, -⟩ := State.frames_cons hr
    rw [State.setFrames_setFrames, State.setFrames_self ht2] at h
    exact h
