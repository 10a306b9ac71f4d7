section CTX
variable {p : Program} {l : Launch} {e : Env} {R : Room} {s : State} {m : MethodId} {args : Array Value} {below : List Frame} {meth : Method} {c : Code} {Q : State → Prop} {V : Nat → Int → Prop} {D : DD} {ad : Nat → Int → Nat} {A : Nat → Prop} {nL cells slots : Nat}
/-- some of the locals, by their places -/
theorem Wx.pick {pc : Nat} {L L' : List (Nat × AV)} {S : List AV} {mm : Mm} {o : Int64} (ks : List Nat) (hs : ks.filterMap (fun k => L[k]?) = L') (h : Wx p l e R s m args below meth c cells slots Q V D ad A nL pc L' S mm o) : Wx p l e R s m args below meth c cells slots Q V D ad A nL pc L S mm o := by
  refine h.sub fun q hq => ?_
  rw [← hs] at hq
  obtain ⟨i, -, hi⟩ := List.mem_filterMap.mp hq
  exact List.mem_of_getElem? hi
end CTX
