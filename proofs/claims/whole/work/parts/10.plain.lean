/-! SOUNDNESS of the instructions that touch no memory -/
theorem xs_aconst_null {p : Program} {l : Launch} {e : Env} {R : Room} {s : State} {m : MethodId} {args : Array Value} {below : List Frame} {meth : Method} {c : Code} {Q : State → Prop} {D : va_G} {ac : Nat → ClassId} {N0 T0 MI bS LS : Nat} {xs : Nat → Int32} {K : xK} {mi pc : Nat} {lv : xL} {st : List xV} {M M0 M' : xM} {v : Option xV} {a b3 c3 : Nat} (hF : xFr p R s m args meth c D ac N0 T0 MI bS LS xs mi) (hd : decode (xbytes mi) pc = .ok (.aconst_null, xlen (.aconst_null))) (hk : xlks mi pc (.aconst_null) a b3 c3 = true) (IH : ∀ pc lv st M, K mi pc lv st M = some (v, M') → xWd p l e R s m args below meth c Q D ac N0 T0 bS LS xs mi M0 pc lv st M) (h : xexec T0 MI K mi pc lv st M (.aconst_null) a b3 c3 = some (v, M')) : xWd p l e R s m args below meth c Q D ac N0 T0 bS LS xs mi M0 pc lv st M := by
  obtain ⟨hx, hb, hml, hown, hts, hC, hnm, hfr, hlo⟩ := hF
  intro H locs ls hl hR hS hm1 hm2
  exact lv_null hx hb hd (IH _ _ _ _ h H locs ls hl hR hS hm1 hm2)
theorem xs_iconst {p : Program} {l : Launch} {e : Env} {R : Room} {s : State} {m : MethodId} {args : Array Value} {below : List Frame} {meth : Method} {c : Code} {Q : State → Prop} {D : va_G} {ac : Nat → ClassId} {N0 T0 MI bS LS : Nat} {xs : Nat → Int32} {K : xK} {mi pc : Nat} {lv : xL} {st : List xV} {M M0 M' : xM} {v : Option xV} {a b3 c3 : Nat} {n : Int} (hF : xFr p R s m args meth c D ac N0 T0 MI bS LS xs mi) (hd : decode (xbytes mi) pc = .ok (.iconst n, xlen (.iconst n))) (hk : xlks mi pc (.iconst n) a b3 c3 = true) (IH : ∀ pc lv st M, K mi pc lv st M = some (v, M') → xWd p l e R s m args below meth c Q D ac N0 T0 bS LS xs mi M0 pc lv st M) (h : xexec T0 MI K mi pc lv st M (.iconst n) a b3 c3 = some (v, M')) : xWd p l e R s m args below meth c Q D ac N0 T0 bS LS xs mi M0 pc lv st M := by
  obtain ⟨hx, hb, hml, hown, hts, hC, hnm, hfr, hlo⟩ := hF
  intro H locs ls hl hR hS hm1 hm2
  exact lv_iconst hx hb hd rfl (IH _ _ _ _ h H locs ls hl hR hS hm1 hm2)
theorem xs_lconst {p : Program} {l : Launch} {e : Env} {R : Room} {s : State} {m : MethodId} {args : Array Value} {below : List Frame} {meth : Method} {c : Code} {Q : State → Prop} {D : va_G} {ac : Nat → ClassId} {N0 T0 MI bS LS : Nat} {xs : Nat → Int32} {K : xK} {mi pc : Nat} {lv : xL} {st : List xV} {M M0 M' : xM} {v : Option xV} {a b3 c3 : Nat} {n : Fin 2} (hF : xFr p R s m args meth c D ac N0 T0 MI bS LS xs mi) (hd : decode (xbytes mi) pc = .ok (.lconst n, xlen (.lconst n))) (hk : xlks mi pc (.lconst n) a b3 c3 = true) (IH : ∀ pc lv st M, K mi pc lv st M = some (v, M') → xWd p l e R s m args below meth c Q D ac N0 T0 bS LS xs mi M0 pc lv st M) (h : xexec T0 MI K mi pc lv st M (.lconst n) a b3 c3 = some (v, M')) : xWd p l e R s m args below meth c Q D ac N0 T0 bS LS xs mi M0 pc lv st M := by
  obtain ⟨hx, hb, hml, hown, hts, hC, hnm, hfr, hlo⟩ := hF
  intro H locs ls hl hR hS hm1 hm2
  exact lv_lconst hx hb hd rfl (IH _ _ _ _ h H locs ls hl hR hS hm1 hm2)
theorem xs_bipush {p : Program} {l : Launch} {e : Env} {R : Room} {s : State} {m : MethodId} {args : Array Value} {below : List Frame} {meth : Method} {c : Code} {Q : State → Prop} {D : va_G} {ac : Nat → ClassId} {N0 T0 MI bS LS : Nat} {xs : Nat → Int32} {K : xK} {mi pc : Nat} {lv : xL} {st : List xV} {M M0 M' : xM} {v : Option xV} {a b3 c3 : Nat} {n : Int} (hF : xFr p R s m args meth c D ac N0 T0 MI bS LS xs mi) (hd : decode (xbytes mi) pc = .ok (.bipush n, xlen (.bipush n))) (hk : xlks mi pc (.bipush n) a b3 c3 = true) (IH : ∀ pc lv st M, K mi pc lv st M = some (v, M') → xWd p l e R s m args below meth c Q D ac N0 T0 bS LS xs mi M0 pc lv st M) (h : xexec T0 MI K mi pc lv st M (.bipush n) a b3 c3 = some (v, M')) : xWd p l e R s m args below meth c Q D ac N0 T0 bS LS xs mi M0 pc lv st M := by
  obtain ⟨hx, hb, hml, hown, hts, hC, hnm, hfr, hlo⟩ := hF
  intro H locs ls hl hR hS hm1 hm2
  exact lv_bipush hx hb hd (of_decide_eq_true hk) (IH _ _ _ _ h H locs ls hl hR hS hm1 hm2)
theorem xs_sipush {p : Program} {l : Launch} {e : Env} {R : Room} {s : State} {m : MethodId} {args : Array Value} {below : List Frame} {meth : Method} {c : Code} {Q : State → Prop} {D : va_G} {ac : Nat → ClassId} {N0 T0 MI bS LS : Nat} {xs : Nat → Int32} {K : xK} {mi pc : Nat} {lv : xL} {st : List xV} {M M0 M' : xM} {v : Option xV} {a b3 c3 : Nat} {n : Int} (hF : xFr p R s m args meth c D ac N0 T0 MI bS LS xs mi) (hd : decode (xbytes mi) pc = .ok (.sipush n, xlen (.sipush n))) (hk : xlks mi pc (.sipush n) a b3 c3 = true) (IH : ∀ pc lv st M, K mi pc lv st M = some (v, M') → xWd p l e R s m args below meth c Q D ac N0 T0 bS LS xs mi M0 pc lv st M) (h : xexec T0 MI K mi pc lv st M (.sipush n) a b3 c3 = some (v, M')) : xWd p l e R s m args below meth c Q D ac N0 T0 bS LS xs mi M0 pc lv st M := by
  obtain ⟨hx, hb, hml, hown, hts, hC, hnm, hfr, hlo⟩ := hF
  intro H locs ls hl hR hS hm1 hm2
  exact lv_sipush hx hb hd (of_decide_eq_true hk) (IH _ _ _ _ h H locs ls hl hR hS hm1 hm2)
theorem xs_iload_n {p : Program} {l : Launch} {e : Env} {R : Room} {s : State} {m : MethodId} {args : Array Value} {below : List Frame} {meth : Method} {c : Code} {Q : State → Prop} {D : va_G} {ac : Nat → ClassId} {N0 T0 MI bS LS : Nat} {xs : Nat → Int32} {K : xK} {mi pc : Nat} {lv : xL} {st : List xV} {M M0 M' : xM} {v : Option xV} {a b3 c3 : Nat} {i : Fin 4} (hF : xFr p R s m args meth c D ac N0 T0 MI bS LS xs mi) (hd : decode (xbytes mi) pc = .ok (.iload_n i, xlen (.iload_n i))) (hk : xlks mi pc (.iload_n i) a b3 c3 = true) (IH : ∀ pc lv st M, K mi pc lv st M = some (v, M') → xWd p l e R s m args below meth c Q D ac N0 T0 bS LS xs mi M0 pc lv st M) (h : xexec T0 MI K mi pc lv st M (.iload_n i) a b3 c3 = some (v, M')) : xWd p l e R s m args below meth c Q D ac N0 T0 bS LS xs mi M0 pc lv st M := by
  obtain ⟨hx, hb, hml, hown, hts, hC, hnm, hfr, hlo⟩ := hF
  obtain ⟨x, h1, h⟩ := xbind h
  have h1 := xasI_some h1
  intro H locs ls hl hR hS hm1 hm2
  exact lv_iload_n hx hb hd rfl (xlk_at hl h1) (IH _ _ _ _ h H locs ls hl hR hS hm1 hm2)
theorem xs_iload {p : Program} {l : Launch} {e : Env} {R : Room} {s : State} {m : MethodId} {args : Array Value} {below : List Frame} {meth : Method} {c : Code} {Q : State → Prop} {D : va_G} {ac : Nat → ClassId} {N0 T0 MI bS LS : Nat} {xs : Nat → Int32} {K : xK} {mi pc : Nat} {lv : xL} {st : List xV} {M M0 M' : xM} {v : Option xV} {a b3 c3 : Nat} {i : Nat} (hF : xFr p R s m args meth c D ac N0 T0 MI bS LS xs mi) (hd : decode (xbytes mi) pc = .ok (.iload i, xlen (.iload i))) (hk : xlks mi pc (.iload i) a b3 c3 = true) (IH : ∀ pc lv st M, K mi pc lv st M = some (v, M') → xWd p l e R s m args below meth c Q D ac N0 T0 bS LS xs mi M0 pc lv st M) (h : xexec T0 MI K mi pc lv st M (.iload i) a b3 c3 = some (v, M')) : xWd p l e R s m args below meth c Q D ac N0 T0 bS LS xs mi M0 pc lv st M := by
  obtain ⟨hx, hb, hml, hown, hts, hC, hnm, hfr, hlo⟩ := hF
  obtain ⟨x, h1, h⟩ := xbind h
  have h1 := xasI_some h1
  intro H locs ls hl hR hS hm1 hm2
  exact lv_iload hx hb hd (xlk_at hl h1) (IH _ _ _ _ h H locs ls hl hR hS hm1 hm2)
theorem xs_lload_n {p : Program} {l : Launch} {e : Env} {R : Room} {s : State} {m : MethodId} {args : Array Value} {below : List Frame} {meth : Method} {c : Code} {Q : State → Prop} {D : va_G} {ac : Nat → ClassId} {N0 T0 MI bS LS : Nat} {xs : Nat → Int32} {K : xK} {mi pc : Nat} {lv : xL} {st : List xV} {M M0 M' : xM} {v : Option xV} {a b3 c3 : Nat} {i : Fin 4} (hF : xFr p R s m args meth c D ac N0 T0 MI bS LS xs mi) (hd : decode (xbytes mi) pc = .ok (.lload_n i, xlen (.lload_n i))) (hk : xlks mi pc (.lload_n i) a b3 c3 = true) (IH : ∀ pc lv st M, K mi pc lv st M = some (v, M') → xWd p l e R s m args below meth c Q D ac N0 T0 bS LS xs mi M0 pc lv st M) (h : xexec T0 MI K mi pc lv st M (.lload_n i) a b3 c3 = some (v, M')) : xWd p l e R s m args below meth c Q D ac N0 T0 bS LS xs mi M0 pc lv st M := by
  obtain ⟨hx, hb, hml, hown, hts, hC, hnm, hfr, hlo⟩ := hF
  obtain ⟨x, h1, h⟩ := xbind h
  have h1 := xasL_some h1
  intro H locs ls hl hR hS hm1 hm2
  exact lv_lload_n hx hb hd rfl (xlk_at hl h1) (IH _ _ _ _ h H locs ls hl hR hS hm1 hm2)
theorem xs_lload {p : Program} {l : Launch} {e : Env} {R : Room} {s : State} {m : MethodId} {args : Array Value} {below : List Frame} {meth : Method} {c : Code} {Q : State → Prop} {D : va_G} {ac : Nat → ClassId} {N0 T0 MI bS LS : Nat} {xs : Nat → Int32} {K : xK} {mi pc : Nat} {lv : xL} {st : List xV} {M M0 M' : xM} {v : Option xV} {a b3 c3 : Nat} {i : Nat} (hF : xFr p R s m args meth c D ac N0 T0 MI bS LS xs mi) (hd : decode (xbytes mi) pc = .ok (.lload i, xlen (.lload i))) (hk : xlks mi pc (.lload i) a b3 c3 = true) (IH : ∀ pc lv st M, K mi pc lv st M = some (v, M') → xWd p l e R s m args below meth c Q D ac N0 T0 bS LS xs mi M0 pc lv st M) (h : xexec T0 MI K mi pc lv st M (.lload i) a b3 c3 = some (v, M')) : xWd p l e R s m args below meth c Q D ac N0 T0 bS LS xs mi M0 pc lv st M := by
  obtain ⟨hx, hb, hml, hown, hts, hC, hnm, hfr, hlo⟩ := hF
  obtain ⟨x, h1, h⟩ := xbind h
  have h1 := xasL_some h1
  intro H locs ls hl hR hS hm1 hm2
  exact lv_lload hx hb hd (xlk_at hl h1) (IH _ _ _ _ h H locs ls hl hR hS hm1 hm2)
theorem xs_aload_n {p : Program} {l : Launch} {e : Env} {R : Room} {s : State} {m : MethodId} {args : Array Value} {below : List Frame} {meth : Method} {c : Code} {Q : State → Prop} {D : va_G} {ac : Nat → ClassId} {N0 T0 MI bS LS : Nat} {xs : Nat → Int32} {K : xK} {mi pc : Nat} {lv : xL} {st : List xV} {M M0 M' : xM} {v : Option xV} {a b3 c3 : Nat} {i : Fin 4} (hF : xFr p R s m args meth c D ac N0 T0 MI bS LS xs mi) (hd : decode (xbytes mi) pc = .ok (.aload_n i, xlen (.aload_n i))) (hk : xlks mi pc (.aload_n i) a b3 c3 = true) (IH : ∀ pc lv st M, K mi pc lv st M = some (v, M') → xWd p l e R s m args below meth c Q D ac N0 T0 bS LS xs mi M0 pc lv st M) (h : xexec T0 MI K mi pc lv st M (.aload_n i) a b3 c3 = some (v, M')) : xWd p l e R s m args below meth c Q D ac N0 T0 bS LS xs mi M0 pc lv st M := by
  obtain ⟨hx, hb, hml, hown, hts, hC, hnm, hfr, hlo⟩ := hF
  obtain ⟨x, h1, h⟩ := xbind h
  have h1 := xasR_some h1
  intro H locs ls hl hR hS hm1 hm2
  cases x with
  | none => exact lv_aload_nN hx hb hd rfl (xlk_at hl h1) (IH _ _ _ _ h H locs ls hl hR hS hm1 hm2)
  | some x => exact lv_aload_n hx hb hd rfl (xlk_at hl h1) (IH _ _ _ _ h H locs ls hl hR hS hm1 hm2)
theorem xs_aload {p : Program} {l : Launch} {e : Env} {R : Room} {s : State} {m : MethodId} {args : Array Value} {below : List Frame} {meth : Method} {c : Code} {Q : State → Prop} {D : va_G} {ac : Nat → ClassId} {N0 T0 MI bS LS : Nat} {xs : Nat → Int32} {K : xK} {mi pc : Nat} {lv : xL} {st : List xV} {M M0 M' : xM} {v : Option xV} {a b3 c3 : Nat} {i : Nat} (hF : xFr p R s m args meth c D ac N0 T0 MI bS LS xs mi) (hd : decode (xbytes mi) pc = .ok (.aload i, xlen (.aload i))) (hk : xlks mi pc (.aload i) a b3 c3 = true) (IH : ∀ pc lv st M, K mi pc lv st M = some (v, M') → xWd p l e R s m args below meth c Q D ac N0 T0 bS LS xs mi M0 pc lv st M) (h : xexec T0 MI K mi pc lv st M (.aload i) a b3 c3 = some (v, M')) : xWd p l e R s m args below meth c Q D ac N0 T0 bS LS xs mi M0 pc lv st M := by
  obtain ⟨hx, hb, hml, hown, hts, hC, hnm, hfr, hlo⟩ := hF
  obtain ⟨x, h1, h⟩ := xbind h
  have h1 := xasR_some h1
  intro H locs ls hl hR hS hm1 hm2
  cases x with
  | none => exact lv_aloadN hx hb hd (xlk_at hl h1) (IH _ _ _ _ h H locs ls hl hR hS hm1 hm2)
  | some x => exact lv_aload hx hb hd (xlk_at hl h1) (IH _ _ _ _ h H locs ls hl hR hS hm1 hm2)
theorem xs_istore_n {p : Program} {l : Launch} {e : Env} {R : Room} {s : State} {m : MethodId} {args : Array Value} {below : List Frame} {meth : Method} {c : Code} {Q : State → Prop} {D : va_G} {ac : Nat → ClassId} {N0 T0 MI bS LS : Nat} {xs : Nat → Int32} {K : xK} {mi pc : Nat} {lv : xL} {st : List xV} {M M0 M' : xM} {v : Option xV} {a b3 c3 : Nat} {i : Fin 4} (hF : xFr p R s m args meth c D ac N0 T0 MI bS LS xs mi) (hd : decode (xbytes mi) pc = .ok (.istore_n i, xlen (.istore_n i))) (hk : xlks mi pc (.istore_n i) a b3 c3 = true) (IH : ∀ pc lv st M, K mi pc lv st M = some (v, M') → xWd p l e R s m args below meth c Q D ac N0 T0 bS LS xs mi M0 pc lv st M) (h : xexec T0 MI K mi pc lv st M (.istore_n i) a b3 c3 = some (v, M')) : xWd p l e R s m args below meth c Q D ac N0 T0 bS LS xs mi M0 pc lv st M := by
  obtain ⟨hx, hb, hml, hown, hts, hC, hnm, hfr, hlo⟩ := hF
  obtain ⟨x, r, rfl, h⟩ := xp1I_some h
  have hi := Nat.le_of_ble_eq_true hk
  intro H locs ls hl hR hS hm1 hm2
  exact lv_istore_n hx hb hd rfl hl hi rfl (fun ls hl0 => have hl := xst1_has (v := vi x) hl0; IH _ _ _ _ h H locs ls hl hR hS hm1 hm2)
theorem xs_istore {p : Program} {l : Launch} {e : Env} {R : Room} {s : State} {m : MethodId} {args : Array Value} {below : List Frame} {meth : Method} {c : Code} {Q : State → Prop} {D : va_G} {ac : Nat → ClassId} {N0 T0 MI bS LS : Nat} {xs : Nat → Int32} {K : xK} {mi pc : Nat} {lv : xL} {st : List xV} {M M0 M' : xM} {v : Option xV} {a b3 c3 : Nat} {i : Nat} (hF : xFr p R s m args meth c D ac N0 T0 MI bS LS xs mi) (hd : decode (xbytes mi) pc = .ok (.istore i, xlen (.istore i))) (hk : xlks mi pc (.istore i) a b3 c3 = true) (IH : ∀ pc lv st M, K mi pc lv st M = some (v, M') → xWd p l e R s m args below meth c Q D ac N0 T0 bS LS xs mi M0 pc lv st M) (h : xexec T0 MI K mi pc lv st M (.istore i) a b3 c3 = some (v, M')) : xWd p l e R s m args below meth c Q D ac N0 T0 bS LS xs mi M0 pc lv st M := by
  obtain ⟨hx, hb, hml, hown, hts, hC, hnm, hfr, hlo⟩ := hF
  obtain ⟨x, r, rfl, h⟩ := xp1I_some h
  have hi := Nat.le_of_ble_eq_true hk
  intro H locs ls hl hR hS hm1 hm2
  exact lv_istore hx hb hd hl hi rfl (fun ls hl0 => have hl := xst1_has (v := vi x) hl0; IH _ _ _ _ h H locs ls hl hR hS hm1 hm2)
theorem xs_lstore {p : Program} {l : Launch} {e : Env} {R : Room} {s : State} {m : MethodId} {args : Array Value} {below : List Frame} {meth : Method} {c : Code} {Q : State → Prop} {D : va_G} {ac : Nat → ClassId} {N0 T0 MI bS LS : Nat} {xs : Nat → Int32} {K : xK} {mi pc : Nat} {lv : xL} {st : List xV} {M M0 M' : xM} {v : Option xV} {a b3 c3 : Nat} {i : Nat} (hF : xFr p R s m args meth c D ac N0 T0 MI bS LS xs mi) (hd : decode (xbytes mi) pc = .ok (.lstore i, xlen (.lstore i))) (hk : xlks mi pc (.lstore i) a b3 c3 = true) (IH : ∀ pc lv st M, K mi pc lv st M = some (v, M') → xWd p l e R s m args below meth c Q D ac N0 T0 bS LS xs mi M0 pc lv st M) (h : xexec T0 MI K mi pc lv st M (.lstore i) a b3 c3 = some (v, M')) : xWd p l e R s m args below meth c Q D ac N0 T0 bS LS xs mi M0 pc lv st M := by
  obtain ⟨hx, hb, hml, hown, hts, hC, hnm, hfr, hlo⟩ := hF
  obtain ⟨x, r, rfl, h⟩ := xp1L_some h
  have hi := Nat.le_of_ble_eq_true hk
  intro H locs ls hl hR hS hm1 hm2
  exact lv_lstore hx hb hd hl hi rfl (fun ls hl0 => have hl := xst2_has (v := vl x) hl0; IH _ _ _ _ h H locs ls hl hR hS hm1 hm2)
theorem xs_astore_n {p : Program} {l : Launch} {e : Env} {R : Room} {s : State} {m : MethodId} {args : Array Value} {below : List Frame} {meth : Method} {c : Code} {Q : State → Prop} {D : va_G} {ac : Nat → ClassId} {N0 T0 MI bS LS : Nat} {xs : Nat → Int32} {K : xK} {mi pc : Nat} {lv : xL} {st : List xV} {M M0 M' : xM} {v : Option xV} {a b3 c3 : Nat} {i : Fin 4} (hF : xFr p R s m args meth c D ac N0 T0 MI bS LS xs mi) (hd : decode (xbytes mi) pc = .ok (.astore_n i, xlen (.astore_n i))) (hk : xlks mi pc (.astore_n i) a b3 c3 = true) (IH : ∀ pc lv st M, K mi pc lv st M = some (v, M') → xWd p l e R s m args below meth c Q D ac N0 T0 bS LS xs mi M0 pc lv st M) (h : xexec T0 MI K mi pc lv st M (.astore_n i) a b3 c3 = some (v, M')) : xWd p l e R s m args below meth c Q D ac N0 T0 bS LS xs mi M0 pc lv st M := by
  obtain ⟨hx, hb, hml, hown, hts, hC, hnm, hfr, hlo⟩ := hF
  obtain ⟨x, r, rfl, h⟩ := xp1R_some h
  have hi := Nat.le_of_ble_eq_true hk
  intro H locs ls hl hR hS hm1 hm2
  cases x with
  | none => exact lv_astore_nN hx hb hd rfl hl hi rfl (fun ls hl0 => have hl := xst1_has (v := vr none) hl0; IH _ _ _ _ h H locs ls hl hR hS hm1 hm2)
  | some x => exact lv_astore_n hx hb hd rfl hl hi rfl (fun ls hl0 => have hl := xst1_has (v := vr (some x)) hl0; IH _ _ _ _ h H locs ls hl hR hS hm1 hm2)
theorem xs_astore {p : Program} {l : Launch} {e : Env} {R : Room} {s : State} {m : MethodId} {args : Array Value} {below : List Frame} {meth : Method} {c : Code} {Q : State → Prop} {D : va_G} {ac : Nat → ClassId} {N0 T0 MI bS LS : Nat} {xs : Nat → Int32} {K : xK} {mi pc : Nat} {lv : xL} {st : List xV} {M M0 M' : xM} {v : Option xV} {a b3 c3 : Nat} {i : Nat} (hF : xFr p R s m args meth c D ac N0 T0 MI bS LS xs mi) (hd : decode (xbytes mi) pc = .ok (.astore i, xlen (.astore i))) (hk : xlks mi pc (.astore i) a b3 c3 = true) (IH : ∀ pc lv st M, K mi pc lv st M = some (v, M') → xWd p l e R s m args below meth c Q D ac N0 T0 bS LS xs mi M0 pc lv st M) (h : xexec T0 MI K mi pc lv st M (.astore i) a b3 c3 = some (v, M')) : xWd p l e R s m args below meth c Q D ac N0 T0 bS LS xs mi M0 pc lv st M := by
  obtain ⟨hx, hb, hml, hown, hts, hC, hnm, hfr, hlo⟩ := hF
  obtain ⟨x, r, rfl, h⟩ := xp1R_some h
  have hi := Nat.le_of_ble_eq_true hk
  intro H locs ls hl hR hS hm1 hm2
  cases x with
  | none => exact lv_astoreN hx hb hd hl hi rfl (fun ls hl0 => have hl := xst1_has (v := vr none) hl0; IH _ _ _ _ h H locs ls hl hR hS hm1 hm2)
  | some x => exact lv_astore hx hb hd hl hi rfl (fun ls hl0 => have hl := xst1_has (v := vr (some x)) hl0; IH _ _ _ _ h H locs ls hl hR hS hm1 hm2)
theorem xs_iinc {p : Program} {l : Launch} {e : Env} {R : Room} {s : State} {m : MethodId} {args : Array Value} {below : List Frame} {meth : Method} {c : Code} {Q : State → Prop} {D : va_G} {ac : Nat → ClassId} {N0 T0 MI bS LS : Nat} {xs : Nat → Int32} {K : xK} {mi pc : Nat} {lv : xL} {st : List xV} {M M0 M' : xM} {v : Option xV} {a b3 c3 : Nat} {i : Nat} {n : Int} (hF : xFr p R s m args meth c D ac N0 T0 MI bS LS xs mi) (hd : decode (xbytes mi) pc = .ok (.iinc i n, xlen (.iinc i n))) (hk : xlks mi pc (.iinc i n) a b3 c3 = true) (IH : ∀ pc lv st M, K mi pc lv st M = some (v, M') → xWd p l e R s m args below meth c Q D ac N0 T0 bS LS xs mi M0 pc lv st M) (h : xexec T0 MI K mi pc lv st M (.iinc i n) a b3 c3 = some (v, M')) : xWd p l e R s m args below meth c Q D ac N0 T0 bS LS xs mi M0 pc lv st M := by
  obtain ⟨hx, hb, hml, hown, hts, hC, hnm, hfr, hlo⟩ := hF
  obtain ⟨x, h1, h⟩ := xbind h
  have h1 := xasI_some h1
  have hi := Nat.le_of_ble_eq_true hk
  intro H locs ls hl hR hS hm1 hm2
  obtain ⟨k, hkk⟩ := List.getElem?_of_mem (xlk_mem h1)
  exact lv_iinc hx hb hd hl hkk rfl hi rfl (fun ls hl0 => have hl := xst1_has (v := vi (x + Int32.ofInt n)) hl0; IH _ _ _ _ h H locs ls hl hR hS hm1 hm2)
theorem xs_iadd {p : Program} {l : Launch} {e : Env} {R : Room} {s : State} {m : MethodId} {args : Array Value} {below : List Frame} {meth : Method} {c : Code} {Q : State → Prop} {D : va_G} {ac : Nat → ClassId} {N0 T0 MI bS LS : Nat} {xs : Nat → Int32} {K : xK} {mi pc : Nat} {lv : xL} {st : List xV} {M M0 M' : xM} {v : Option xV} {a b3 c3 : Nat} (hF : xFr p R s m args meth c D ac N0 T0 MI bS LS xs mi) (hd : decode (xbytes mi) pc = .ok (.iadd, xlen (.iadd))) (hk : xlks mi pc (.iadd) a b3 c3 = true) (IH : ∀ pc lv st M, K mi pc lv st M = some (v, M') → xWd p l e R s m args below meth c Q D ac N0 T0 bS LS xs mi M0 pc lv st M) (h : xexec T0 MI K mi pc lv st M (.iadd) a b3 c3 = some (v, M')) : xWd p l e R s m args below meth c Q D ac N0 T0 bS LS xs mi M0 pc lv st M := by
  obtain ⟨hx, hb, hml, hown, hts, hC, hnm, hfr, hlo⟩ := hF
  obtain ⟨x, y, r, rfl, h⟩ := xp2I_some h
  intro H locs ls hl hR hS hm1 hm2
  exact lv_iadd hx hb hd (IH _ _ _ _ h H locs ls hl hR hS hm1 hm2)
theorem xs_isub {p : Program} {l : Launch} {e : Env} {R : Room} {s : State} {m : MethodId} {args : Array Value} {below : List Frame} {meth : Method} {c : Code} {Q : State → Prop} {D : va_G} {ac : Nat → ClassId} {N0 T0 MI bS LS : Nat} {xs : Nat → Int32} {K : xK} {mi pc : Nat} {lv : xL} {st : List xV} {M M0 M' : xM} {v : Option xV} {a b3 c3 : Nat} (hF : xFr p R s m args meth c D ac N0 T0 MI bS LS xs mi) (hd : decode (xbytes mi) pc = .ok (.isub, xlen (.isub))) (hk : xlks mi pc (.isub) a b3 c3 = true) (IH : ∀ pc lv st M, K mi pc lv st M = some (v, M') → xWd p l e R s m args below meth c Q D ac N0 T0 bS LS xs mi M0 pc lv st M) (h : xexec T0 MI K mi pc lv st M (.isub) a b3 c3 = some (v, M')) : xWd p l e R s m args below meth c Q D ac N0 T0 bS LS xs mi M0 pc lv st M := by
  obtain ⟨hx, hb, hml, hown, hts, hC, hnm, hfr, hlo⟩ := hF
  obtain ⟨x, y, r, rfl, h⟩ := xp2I_some h
  intro H locs ls hl hR hS hm1 hm2
  exact lv_isub hx hb hd (IH _ _ _ _ h H locs ls hl hR hS hm1 hm2)
theorem xs_imul {p : Program} {l : Launch} {e : Env} {R : Room} {s : State} {m : MethodId} {args : Array Value} {below : List Frame} {meth : Method} {c : Code} {Q : State → Prop} {D : va_G} {ac : Nat → ClassId} {N0 T0 MI bS LS : Nat} {xs : Nat → Int32} {K : xK} {mi pc : Nat} {lv : xL} {st : List xV} {M M0 M' : xM} {v : Option xV} {a b3 c3 : Nat} (hF : xFr p R s m args meth c D ac N0 T0 MI bS LS xs mi) (hd : decode (xbytes mi) pc = .ok (.imul, xlen (.imul))) (hk : xlks mi pc (.imul) a b3 c3 = true) (IH : ∀ pc lv st M, K mi pc lv st M = some (v, M') → xWd p l e R s m args below meth c Q D ac N0 T0 bS LS xs mi M0 pc lv st M) (h : xexec T0 MI K mi pc lv st M (.imul) a b3 c3 = some (v, M')) : xWd p l e R s m args below meth c Q D ac N0 T0 bS LS xs mi M0 pc lv st M := by
  obtain ⟨hx, hb, hml, hown, hts, hC, hnm, hfr, hlo⟩ := hF
  obtain ⟨x, y, r, rfl, h⟩ := xp2I_some h
  intro H locs ls hl hR hS hm1 hm2
  exact lv_imul hx hb hd (IH _ _ _ _ h H locs ls hl hR hS hm1 hm2)
theorem xs_iand {p : Program} {l : Launch} {e : Env} {R : Room} {s : State} {m : MethodId} {args : Array Value} {below : List Frame} {meth : Method} {c : Code} {Q : State → Prop} {D : va_G} {ac : Nat → ClassId} {N0 T0 MI bS LS : Nat} {xs : Nat → Int32} {K : xK} {mi pc : Nat} {lv : xL} {st : List xV} {M M0 M' : xM} {v : Option xV} {a b3 c3 : Nat} (hF : xFr p R s m args meth c D ac N0 T0 MI bS LS xs mi) (hd : decode (xbytes mi) pc = .ok (.iand, xlen (.iand))) (hk : xlks mi pc (.iand) a b3 c3 = true) (IH : ∀ pc lv st M, K mi pc lv st M = some (v, M') → xWd p l e R s m args below meth c Q D ac N0 T0 bS LS xs mi M0 pc lv st M) (h : xexec T0 MI K mi pc lv st M (.iand) a b3 c3 = some (v, M')) : xWd p l e R s m args below meth c Q D ac N0 T0 bS LS xs mi M0 pc lv st M := by
  obtain ⟨hx, hb, hml, hown, hts, hC, hnm, hfr, hlo⟩ := hF
  obtain ⟨x, y, r, rfl, h⟩ := xp2I_some h
  intro H locs ls hl hR hS hm1 hm2
  exact lv_iand hx hb hd (IH _ _ _ _ h H locs ls hl hR hS hm1 hm2)
theorem xs_ixor {p : Program} {l : Launch} {e : Env} {R : Room} {s : State} {m : MethodId} {args : Array Value} {below : List Frame} {meth : Method} {c : Code} {Q : State → Prop} {D : va_G} {ac : Nat → ClassId} {N0 T0 MI bS LS : Nat} {xs : Nat → Int32} {K : xK} {mi pc : Nat} {lv : xL} {st : List xV} {M M0 M' : xM} {v : Option xV} {a b3 c3 : Nat} (hF : xFr p R s m args meth c D ac N0 T0 MI bS LS xs mi) (hd : decode (xbytes mi) pc = .ok (.ixor, xlen (.ixor))) (hk : xlks mi pc (.ixor) a b3 c3 = true) (IH : ∀ pc lv st M, K mi pc lv st M = some (v, M') → xWd p l e R s m args below meth c Q D ac N0 T0 bS LS xs mi M0 pc lv st M) (h : xexec T0 MI K mi pc lv st M (.ixor) a b3 c3 = some (v, M')) : xWd p l e R s m args below meth c Q D ac N0 T0 bS LS xs mi M0 pc lv st M := by
  obtain ⟨hx, hb, hml, hown, hts, hC, hnm, hfr, hlo⟩ := hF
  obtain ⟨x, y, r, rfl, h⟩ := xp2I_some h
  intro H locs ls hl hR hS hm1 hm2
  exact lv_ixor hx hb hd (IH _ _ _ _ h H locs ls hl hR hS hm1 hm2)
theorem xs_ishl {p : Program} {l : Launch} {e : Env} {R : Room} {s : State} {m : MethodId} {args : Array Value} {below : List Frame} {meth : Method} {c : Code} {Q : State → Prop} {D : va_G} {ac : Nat → ClassId} {N0 T0 MI bS LS : Nat} {xs : Nat → Int32} {K : xK} {mi pc : Nat} {lv : xL} {st : List xV} {M M0 M' : xM} {v : Option xV} {a b3 c3 : Nat} (hF : xFr p R s m args meth c D ac N0 T0 MI bS LS xs mi) (hd : decode (xbytes mi) pc = .ok (.ishl, xlen (.ishl))) (hk : xlks mi pc (.ishl) a b3 c3 = true) (IH : ∀ pc lv st M, K mi pc lv st M = some (v, M') → xWd p l e R s m args below meth c Q D ac N0 T0 bS LS xs mi M0 pc lv st M) (h : xexec T0 MI K mi pc lv st M (.ishl) a b3 c3 = some (v, M')) : xWd p l e R s m args below meth c Q D ac N0 T0 bS LS xs mi M0 pc lv st M := by
  obtain ⟨hx, hb, hml, hown, hts, hC, hnm, hfr, hlo⟩ := hF
  obtain ⟨x, y, r, rfl, h⟩ := xp2I_some h
  intro H locs ls hl hR hS hm1 hm2
  exact lv_ishl hx hb hd (IH _ _ _ _ h H locs ls hl hR hS hm1 hm2)
theorem xs_ishr {p : Program} {l : Launch} {e : Env} {R : Room} {s : State} {m : MethodId} {args : Array Value} {below : List Frame} {meth : Method} {c : Code} {Q : State → Prop} {D : va_G} {ac : Nat → ClassId} {N0 T0 MI bS LS : Nat} {xs : Nat → Int32} {K : xK} {mi pc : Nat} {lv : xL} {st : List xV} {M M0 M' : xM} {v : Option xV} {a b3 c3 : Nat} (hF : xFr p R s m args meth c D ac N0 T0 MI bS LS xs mi) (hd : decode (xbytes mi) pc = .ok (.ishr, xlen (.ishr))) (hk : xlks mi pc (.ishr) a b3 c3 = true) (IH : ∀ pc lv st M, K mi pc lv st M = some (v, M') → xWd p l e R s m args below meth c Q D ac N0 T0 bS LS xs mi M0 pc lv st M) (h : xexec T0 MI K mi pc lv st M (.ishr) a b3 c3 = some (v, M')) : xWd p l e R s m args below meth c Q D ac N0 T0 bS LS xs mi M0 pc lv st M := by
  obtain ⟨hx, hb, hml, hown, hts, hC, hnm, hfr, hlo⟩ := hF
  obtain ⟨x, y, r, rfl, h⟩ := xp2I_some h
  intro H locs ls hl hR hS hm1 hm2
  exact lv_ishr hx hb hd (IH _ _ _ _ h H locs ls hl hR hS hm1 hm2)
theorem xs_iushr {p : Program} {l : Launch} {e : Env} {R : Room} {s : State} {m : MethodId} {args : Array Value} {below : List Frame} {meth : Method} {c : Code} {Q : State → Prop} {D : va_G} {ac : Nat → ClassId} {N0 T0 MI bS LS : Nat} {xs : Nat → Int32} {K : xK} {mi pc : Nat} {lv : xL} {st : List xV} {M M0 M' : xM} {v : Option xV} {a b3 c3 : Nat} (hF : xFr p R s m args meth c D ac N0 T0 MI bS LS xs mi) (hd : decode (xbytes mi) pc = .ok (.iushr, xlen (.iushr))) (hk : xlks mi pc (.iushr) a b3 c3 = true) (IH : ∀ pc lv st M, K mi pc lv st M = some (v, M') → xWd p l e R s m args below meth c Q D ac N0 T0 bS LS xs mi M0 pc lv st M) (h : xexec T0 MI K mi pc lv st M (.iushr) a b3 c3 = some (v, M')) : xWd p l e R s m args below meth c Q D ac N0 T0 bS LS xs mi M0 pc lv st M := by
  obtain ⟨hx, hb, hml, hown, hts, hC, hnm, hfr, hlo⟩ := hF
  obtain ⟨x, y, r, rfl, h⟩ := xp2I_some h
  intro H locs ls hl hR hS hm1 hm2
  exact lv_iushr hx hb hd rfl (IH _ _ _ _ h H locs ls hl hR hS hm1 hm2)
theorem xs_ineg {p : Program} {l : Launch} {e : Env} {R : Room} {s : State} {m : MethodId} {args : Array Value} {below : List Frame} {meth : Method} {c : Code} {Q : State → Prop} {D : va_G} {ac : Nat → ClassId} {N0 T0 MI bS LS : Nat} {xs : Nat → Int32} {K : xK} {mi pc : Nat} {lv : xL} {st : List xV} {M M0 M' : xM} {v : Option xV} {a b3 c3 : Nat} (hF : xFr p R s m args meth c D ac N0 T0 MI bS LS xs mi) (hd : decode (xbytes mi) pc = .ok (.ineg, xlen (.ineg))) (hk : xlks mi pc (.ineg) a b3 c3 = true) (IH : ∀ pc lv st M, K mi pc lv st M = some (v, M') → xWd p l e R s m args below meth c Q D ac N0 T0 bS LS xs mi M0 pc lv st M) (h : xexec T0 MI K mi pc lv st M (.ineg) a b3 c3 = some (v, M')) : xWd p l e R s m args below meth c Q D ac N0 T0 bS LS xs mi M0 pc lv st M := by
  obtain ⟨hx, hb, hml, hown, hts, hC, hnm, hfr, hlo⟩ := hF
  obtain ⟨x, r, rfl, h⟩ := xp1I_some h
  intro H locs ls hl hR hS hm1 hm2
  exact lv_ineg hx hb hd (IH _ _ _ _ h H locs ls hl hR hS hm1 hm2)
theorem xs_ladd {p : Program} {l : Launch} {e : Env} {R : Room} {s : State} {m : MethodId} {args : Array Value} {below : List Frame} {meth : Method} {c : Code} {Q : State → Prop} {D : va_G} {ac : Nat → ClassId} {N0 T0 MI bS LS : Nat} {xs : Nat → Int32} {K : xK} {mi pc : Nat} {lv : xL} {st : List xV} {M M0 M' : xM} {v : Option xV} {a b3 c3 : Nat} (hF : xFr p R s m args meth c D ac N0 T0 MI bS LS xs mi) (hd : decode (xbytes mi) pc = .ok (.ladd, xlen (.ladd))) (hk : xlks mi pc (.ladd) a b3 c3 = true) (IH : ∀ pc lv st M, K mi pc lv st M = some (v, M') → xWd p l e R s m args below meth c Q D ac N0 T0 bS LS xs mi M0 pc lv st M) (h : xexec T0 MI K mi pc lv st M (.ladd) a b3 c3 = some (v, M')) : xWd p l e R s m args below meth c Q D ac N0 T0 bS LS xs mi M0 pc lv st M := by
  obtain ⟨hx, hb, hml, hown, hts, hC, hnm, hfr, hlo⟩ := hF
  obtain ⟨x, y, r, rfl, h⟩ := xp2L_some h
  intro H locs ls hl hR hS hm1 hm2
  exact lv_ladd hx hb hd (IH _ _ _ _ h H locs ls hl hR hS hm1 hm2)
theorem xs_land {p : Program} {l : Launch} {e : Env} {R : Room} {s : State} {m : MethodId} {args : Array Value} {below : List Frame} {meth : Method} {c : Code} {Q : State → Prop} {D : va_G} {ac : Nat → ClassId} {N0 T0 MI bS LS : Nat} {xs : Nat → Int32} {K : xK} {mi pc : Nat} {lv : xL} {st : List xV} {M M0 M' : xM} {v : Option xV} {a b3 c3 : Nat} (hF : xFr p R s m args meth c D ac N0 T0 MI bS LS xs mi) (hd : decode (xbytes mi) pc = .ok (.land, xlen (.land))) (hk : xlks mi pc (.land) a b3 c3 = true) (IH : ∀ pc lv st M, K mi pc lv st M = some (v, M') → xWd p l e R s m args below meth c Q D ac N0 T0 bS LS xs mi M0 pc lv st M) (h : xexec T0 MI K mi pc lv st M (.land) a b3 c3 = some (v, M')) : xWd p l e R s m args below meth c Q D ac N0 T0 bS LS xs mi M0 pc lv st M := by
  obtain ⟨hx, hb, hml, hown, hts, hC, hnm, hfr, hlo⟩ := hF
  obtain ⟨x, y, r, rfl, h⟩ := xp2L_some h
  intro H locs ls hl hR hS hm1 hm2
  exact lv_land hx hb hd (IH _ _ _ _ h H locs ls hl hR hS hm1 hm2)
theorem xs_lor {p : Program} {l : Launch} {e : Env} {R : Room} {s : State} {m : MethodId} {args : Array Value} {below : List Frame} {meth : Method} {c : Code} {Q : State → Prop} {D : va_G} {ac : Nat → ClassId} {N0 T0 MI bS LS : Nat} {xs : Nat → Int32} {K : xK} {mi pc : Nat} {lv : xL} {st : List xV} {M M0 M' : xM} {v : Option xV} {a b3 c3 : Nat} (hF : xFr p R s m args meth c D ac N0 T0 MI bS LS xs mi) (hd : decode (xbytes mi) pc = .ok (.lor, xlen (.lor))) (hk : xlks mi pc (.lor) a b3 c3 = true) (IH : ∀ pc lv st M, K mi pc lv st M = some (v, M') → xWd p l e R s m args below meth c Q D ac N0 T0 bS LS xs mi M0 pc lv st M) (h : xexec T0 MI K mi pc lv st M (.lor) a b3 c3 = some (v, M')) : xWd p l e R s m args below meth c Q D ac N0 T0 bS LS xs mi M0 pc lv st M := by
  obtain ⟨hx, hb, hml, hown, hts, hC, hnm, hfr, hlo⟩ := hF
  obtain ⟨x, y, r, rfl, h⟩ := xp2L_some h
  intro H locs ls hl hR hS hm1 hm2
  exact lv_lor hx hb hd (IH _ _ _ _ h H locs ls hl hR hS hm1 hm2)
theorem xs_lshl {p : Program} {l : Launch} {e : Env} {R : Room} {s : State} {m : MethodId} {args : Array Value} {below : List Frame} {meth : Method} {c : Code} {Q : State → Prop} {D : va_G} {ac : Nat → ClassId} {N0 T0 MI bS LS : Nat} {xs : Nat → Int32} {K : xK} {mi pc : Nat} {lv : xL} {st : List xV} {M M0 M' : xM} {v : Option xV} {a b3 c3 : Nat} (hF : xFr p R s m args meth c D ac N0 T0 MI bS LS xs mi) (hd : decode (xbytes mi) pc = .ok (.lshl, xlen (.lshl))) (hk : xlks mi pc (.lshl) a b3 c3 = true) (IH : ∀ pc lv st M, K mi pc lv st M = some (v, M') → xWd p l e R s m args below meth c Q D ac N0 T0 bS LS xs mi M0 pc lv st M) (h : xexec T0 MI K mi pc lv st M (.lshl) a b3 c3 = some (v, M')) : xWd p l e R s m args below meth c Q D ac N0 T0 bS LS xs mi M0 pc lv st M := by
  obtain ⟨hx, hb, hml, hown, hts, hC, hnm, hfr, hlo⟩ := hF
  obtain ⟨y, r, rfl, h⟩ := xp1I_some h
  obtain ⟨x, r, rfl, h⟩ := xp1L_some h
  intro H locs ls hl hR hS hm1 hm2
  exact lv_lshl hx hb hd rfl (IH _ _ _ _ h H locs ls hl hR hS hm1 hm2)
theorem xs_i2l {p : Program} {l : Launch} {e : Env} {R : Room} {s : State} {m : MethodId} {args : Array Value} {below : List Frame} {meth : Method} {c : Code} {Q : State → Prop} {D : va_G} {ac : Nat → ClassId} {N0 T0 MI bS LS : Nat} {xs : Nat → Int32} {K : xK} {mi pc : Nat} {lv : xL} {st : List xV} {M M0 M' : xM} {v : Option xV} {a b3 c3 : Nat} (hF : xFr p R s m args meth c D ac N0 T0 MI bS LS xs mi) (hd : decode (xbytes mi) pc = .ok (.i2l, xlen (.i2l))) (hk : xlks mi pc (.i2l) a b3 c3 = true) (IH : ∀ pc lv st M, K mi pc lv st M = some (v, M') → xWd p l e R s m args below meth c Q D ac N0 T0 bS LS xs mi M0 pc lv st M) (h : xexec T0 MI K mi pc lv st M (.i2l) a b3 c3 = some (v, M')) : xWd p l e R s m args below meth c Q D ac N0 T0 bS LS xs mi M0 pc lv st M := by
  obtain ⟨hx, hb, hml, hown, hts, hC, hnm, hfr, hlo⟩ := hF
  obtain ⟨x, r, rfl, h⟩ := xp1I_some h
  intro H locs ls hl hR hS hm1 hm2
  exact lv_i2l hx hb hd rfl (IH _ _ _ _ h H locs ls hl hR hS hm1 hm2)
theorem xs_lcmp {p : Program} {l : Launch} {e : Env} {R : Room} {s : State} {m : MethodId} {args : Array Value} {below : List Frame} {meth : Method} {c : Code} {Q : State → Prop} {D : va_G} {ac : Nat → ClassId} {N0 T0 MI bS LS : Nat} {xs : Nat → Int32} {K : xK} {mi pc : Nat} {lv : xL} {st : List xV} {M M0 M' : xM} {v : Option xV} {a b3 c3 : Nat} (hF : xFr p R s m args meth c D ac N0 T0 MI bS LS xs mi) (hd : decode (xbytes mi) pc = .ok (.lcmp, xlen (.lcmp))) (hk : xlks mi pc (.lcmp) a b3 c3 = true) (IH : ∀ pc lv st M, K mi pc lv st M = some (v, M') → xWd p l e R s m args below meth c Q D ac N0 T0 bS LS xs mi M0 pc lv st M) (h : xexec T0 MI K mi pc lv st M (.lcmp) a b3 c3 = some (v, M')) : xWd p l e R s m args below meth c Q D ac N0 T0 bS LS xs mi M0 pc lv st M := by
  obtain ⟨hx, hb, hml, hown, hts, hC, hnm, hfr, hlo⟩ := hF
  obtain ⟨x, y, r, rfl, h⟩ := xp2L_some h
  intro H locs ls hl hR hS hm1 hm2
  exact W.lcmp hx hb hd (IH _ _ _ _ h H locs ls hl hR hS hm1 hm2)
theorem xs_dup {p : Program} {l : Launch} {e : Env} {R : Room} {s : State} {m : MethodId} {args : Array Value} {below : List Frame} {meth : Method} {c : Code} {Q : State → Prop} {D : va_G} {ac : Nat → ClassId} {N0 T0 MI bS LS : Nat} {xs : Nat → Int32} {K : xK} {mi pc : Nat} {lv : xL} {st : List xV} {M M0 M' : xM} {v : Option xV} {a b3 c3 : Nat} (hF : xFr p R s m args meth c D ac N0 T0 MI bS LS xs mi) (hd : decode (xbytes mi) pc = .ok (.dup, xlen (.dup))) (hk : xlks mi pc (.dup) a b3 c3 = true) (IH : ∀ pc lv st M, K mi pc lv st M = some (v, M') → xWd p l e R s m args below meth c Q D ac N0 T0 bS LS xs mi M0 pc lv st M) (h : xexec T0 MI K mi pc lv st M (.dup) a b3 c3 = some (v, M')) : xWd p l e R s m args below meth c Q D ac N0 T0 bS LS xs mi M0 pc lv st M := by
  obtain ⟨hx, hb, hml, hown, hts, hC, hnm, hfr, hlo⟩ := hF
  cases st with
  | nil => cases h
  | cons w r =>
    obtain ⟨h1, h⟩ := xcond h
    intro H locs ls hl hR hS hm1 hm2
    exact lv_dup hx hb hd (by rw [xcat_val]; exact Nat.eq_of_beq_eq_true h1) (IH _ _ _ _ h H locs ls hl hR hS hm1 hm2)
theorem xs_pop {p : Program} {l : Launch} {e : Env} {R : Room} {s : State} {m : MethodId} {args : Array Value} {below : List Frame} {meth : Method} {c : Code} {Q : State → Prop} {D : va_G} {ac : Nat → ClassId} {N0 T0 MI bS LS : Nat} {xs : Nat → Int32} {K : xK} {mi pc : Nat} {lv : xL} {st : List xV} {M M0 M' : xM} {v : Option xV} {a b3 c3 : Nat} (hF : xFr p R s m args meth c D ac N0 T0 MI bS LS xs mi) (hd : decode (xbytes mi) pc = .ok (.pop, xlen (.pop))) (hk : xlks mi pc (.pop) a b3 c3 = true) (IH : ∀ pc lv st M, K mi pc lv st M = some (v, M') → xWd p l e R s m args below meth c Q D ac N0 T0 bS LS xs mi M0 pc lv st M) (h : xexec T0 MI K mi pc lv st M (.pop) a b3 c3 = some (v, M')) : xWd p l e R s m args below meth c Q D ac N0 T0 bS LS xs mi M0 pc lv st M := by
  obtain ⟨hx, hb, hml, hown, hts, hC, hnm, hfr, hlo⟩ := hF
  cases st with
  | nil => cases h
  | cons w r =>
    obtain ⟨h1, h⟩ := xcond h
    intro H locs ls hl hR hS hm1 hm2
    exact lv_pop hx hb hd (by rw [xcat_val]; exact Nat.eq_of_beq_eq_true h1) (IH _ _ _ _ h H locs ls hl hR hS hm1 hm2)
theorem xs_dup_x1 {p : Program} {l : Launch} {e : Env} {R : Room} {s : State} {m : MethodId} {args : Array Value} {below : List Frame} {meth : Method} {c : Code} {Q : State → Prop} {D : va_G} {ac : Nat → ClassId} {N0 T0 MI bS LS : Nat} {xs : Nat → Int32} {K : xK} {mi pc : Nat} {lv : xL} {st : List xV} {M M0 M' : xM} {v : Option xV} {a b3 c3 : Nat} (hF : xFr p R s m args meth c D ac N0 T0 MI bS LS xs mi) (hd : decode (xbytes mi) pc = .ok (.dup_x1, xlen (.dup_x1))) (hk : xlks mi pc (.dup_x1) a b3 c3 = true) (IH : ∀ pc lv st M, K mi pc lv st M = some (v, M') → xWd p l e R s m args below meth c Q D ac N0 T0 bS LS xs mi M0 pc lv st M) (h : xexec T0 MI K mi pc lv st M (.dup_x1) a b3 c3 = some (v, M')) : xWd p l e R s m args below meth c Q D ac N0 T0 bS LS xs mi M0 pc lv st M := by
  obtain ⟨hx, hb, hml, hown, hts, hC, hnm, hfr, hlo⟩ := hF
  cases st with
  | nil => cases h
  | cons w r =>
    cases r with
    | nil => cases h
    | cons w2 r =>
      obtain ⟨h1, h⟩ := xcond h
      have h1 := (Bool.and_eq_true _ _ ▸ h1 : _ ∧ _)
      intro H locs ls hl hR hS hm1 hm2
      exact lv_dup_x1 hx hb hd (by rw [xcat_val]; exact Nat.eq_of_beq_eq_true h1.1) (by rw [xcat_val]; exact Nat.eq_of_beq_eq_true h1.2) (IH _ _ _ _ h H locs ls hl hR hS hm1 hm2)
theorem xs_dup2 {p : Program} {l : Launch} {e : Env} {R : Room} {s : State} {m : MethodId} {args : Array Value} {below : List Frame} {meth : Method} {c : Code} {Q : State → Prop} {D : va_G} {ac : Nat → ClassId} {N0 T0 MI bS LS : Nat} {xs : Nat → Int32} {K : xK} {mi pc : Nat} {lv : xL} {st : List xV} {M M0 M' : xM} {v : Option xV} {a b3 c3 : Nat} (hF : xFr p R s m args meth c D ac N0 T0 MI bS LS xs mi) (hd : decode (xbytes mi) pc = .ok (.dup2, xlen (.dup2))) (hk : xlks mi pc (.dup2) a b3 c3 = true) (IH : ∀ pc lv st M, K mi pc lv st M = some (v, M') → xWd p l e R s m args below meth c Q D ac N0 T0 bS LS xs mi M0 pc lv st M) (h : xexec T0 MI K mi pc lv st M (.dup2) a b3 c3 = some (v, M')) : xWd p l e R s m args below meth c Q D ac N0 T0 bS LS xs mi M0 pc lv st M := by
  obtain ⟨hx, hb, hml, hown, hts, hC, hnm, hfr, hlo⟩ := hF
  cases st with
  | nil => cases h
  | cons w r =>
    cases r with
    | nil => cases h
    | cons w2 r =>
      obtain ⟨h1, h⟩ := xcond h
      have h1 := (Bool.and_eq_true _ _ ▸ h1 : _ ∧ _)
      intro H locs ls hl hR hS hm1 hm2
      exact lv_dup2_11 hx hb hd (by rw [xcat_val]; exact Nat.eq_of_beq_eq_true h1.1) (by rw [xcat_val]; exact Nat.eq_of_beq_eq_true h1.2) (IH _ _ _ _ h H locs ls hl hR hS hm1 hm2)
theorem xs_ifCond {p : Program} {l : Launch} {e : Env} {R : Room} {s : State} {m : MethodId} {args : Array Value} {below : List Frame} {meth : Method} {c : Code} {Q : State → Prop} {D : va_G} {ac : Nat → ClassId} {N0 T0 MI bS LS : Nat} {xs : Nat → Int32} {K : xK} {mi pc : Nat} {lv : xL} {st : List xV} {M M0 M' : xM} {v : Option xV} {a b3 c3 : Nat} {op : ClassFile.Cond} {off : Int} (hF : xFr p R s m args meth c D ac N0 T0 MI bS LS xs mi) (hd : decode (xbytes mi) pc = .ok (.ifCond op off, xlen (.ifCond op off))) (hk : xlks mi pc (.ifCond op off) a b3 c3 = true) (IH : ∀ pc lv st M, K mi pc lv st M = some (v, M') → xWd p l e R s m args below meth c Q D ac N0 T0 bS LS xs mi M0 pc lv st M) (h : xexec T0 MI K mi pc lv st M (.ifCond op off) a b3 c3 = some (v, M')) : xWd p l e R s m args below meth c Q D ac N0 T0 bS LS xs mi M0 pc lv st M := by
  obtain ⟨hx, hb, hml, hown, hts, hC, hnm, hfr, hlo⟩ := hF
  obtain ⟨x, r, rfl, h⟩ := xp1I_some h
  have ht := of_decide_eq_true hk
  intro H locs ls hl hR hS hm1 hm2
  cases op with
  | eq => exact lv_if_eq hx hb hd ht (fun h0 => IH _ _ _ _ ((if_pos h0).symm.trans h) H locs ls hl hR hS hm1 hm2) (fun h0 => IH _ _ _ _ ((if_neg h0).symm.trans h) H locs ls hl hR hS hm1 hm2)
  | ne => exact lv_if_ne hx hb hd ht (fun h0 => IH _ _ _ _ ((if_neg h0).symm.trans h) H locs ls hl hR hS hm1 hm2) (fun h0 => IH _ _ _ _ ((if_pos h0).symm.trans h) H locs ls hl hR hS hm1 hm2)
  | lt => exact lv_if_lt hx hb hd ht (fun h0 => IH _ _ _ _ ((if_pos h0).symm.trans h) H locs ls hl hR hS hm1 hm2) (fun h0 => IH _ _ _ _ ((if_neg h0).symm.trans h) H locs ls hl hR hS hm1 hm2)
  | ge => exact lv_if_ge hx hb hd ht (fun h0 => IH _ _ _ _ ((if_pos h0).symm.trans h) H locs ls hl hR hS hm1 hm2) (fun h0 => IH _ _ _ _ ((if_neg h0).symm.trans h) H locs ls hl hR hS hm1 hm2)
  | gt => exact lv_if_gt hx hb hd ht (fun h0 => IH _ _ _ _ ((if_pos h0).symm.trans h) H locs ls hl hR hS hm1 hm2) (fun h0 => IH _ _ _ _ ((if_neg h0).symm.trans h) H locs ls hl hR hS hm1 hm2)
  | le => exact lv_if_le hx hb hd ht (fun h0 => IH _ _ _ _ ((if_pos h0).symm.trans h) H locs ls hl hR hS hm1 hm2) (fun h0 => IH _ _ _ _ ((if_neg h0).symm.trans h) H locs ls hl hR hS hm1 hm2)
theorem xs_if_icmp {p : Program} {l : Launch} {e : Env} {R : Room} {s : State} {m : MethodId} {args : Array Value} {below : List Frame} {meth : Method} {c : Code} {Q : State → Prop} {D : va_G} {ac : Nat → ClassId} {N0 T0 MI bS LS : Nat} {xs : Nat → Int32} {K : xK} {mi pc : Nat} {lv : xL} {st : List xV} {M M0 M' : xM} {v : Option xV} {a b3 c3 : Nat} {op : ClassFile.Cond} {off : Int} (hF : xFr p R s m args meth c D ac N0 T0 MI bS LS xs mi) (hd : decode (xbytes mi) pc = .ok (.if_icmp op off, xlen (.if_icmp op off))) (hk : xlks mi pc (.if_icmp op off) a b3 c3 = true) (IH : ∀ pc lv st M, K mi pc lv st M = some (v, M') → xWd p l e R s m args below meth c Q D ac N0 T0 bS LS xs mi M0 pc lv st M) (h : xexec T0 MI K mi pc lv st M (.if_icmp op off) a b3 c3 = some (v, M')) : xWd p l e R s m args below meth c Q D ac N0 T0 bS LS xs mi M0 pc lv st M := by
  obtain ⟨hx, hb, hml, hown, hts, hC, hnm, hfr, hlo⟩ := hF
  obtain ⟨x, y, r, rfl, h⟩ := xp2I_some h
  have ht := of_decide_eq_true hk
  intro H locs ls hl hR hS hm1 hm2
  cases op with
  | eq => exact lv_icmp_eq hx hb hd ht (fun h0 => IH _ _ _ _ ((if_pos h0).symm.trans h) H locs ls hl hR hS hm1 hm2) (fun h0 => IH _ _ _ _ ((if_neg h0).symm.trans h) H locs ls hl hR hS hm1 hm2)
  | ne => exact lv_icmp_ne hx hb hd ht (fun h0 => IH _ _ _ _ ((if_neg h0).symm.trans h) H locs ls hl hR hS hm1 hm2) (fun h0 => IH _ _ _ _ ((if_pos h0).symm.trans h) H locs ls hl hR hS hm1 hm2)
  | lt => exact lv_icmp_lt hx hb hd ht (fun h0 => IH _ _ _ _ ((if_pos h0).symm.trans h) H locs ls hl hR hS hm1 hm2) (fun h0 => IH _ _ _ _ ((if_neg h0).symm.trans h) H locs ls hl hR hS hm1 hm2)
  | ge => exact lv_icmp_ge hx hb hd ht (fun h0 => IH _ _ _ _ ((if_pos h0).symm.trans h) H locs ls hl hR hS hm1 hm2) (fun h0 => IH _ _ _ _ ((if_neg h0).symm.trans h) H locs ls hl hR hS hm1 hm2)
  | gt => exact lv_icmp_gt hx hb hd ht (fun h0 => IH _ _ _ _ ((if_pos h0).symm.trans h) H locs ls hl hR hS hm1 hm2) (fun h0 => IH _ _ _ _ ((if_neg h0).symm.trans h) H locs ls hl hR hS hm1 hm2)
  | le => exact lv_icmp_le hx hb hd ht (fun h0 => IH _ _ _ _ ((if_pos h0).symm.trans h) H locs ls hl hR hS hm1 hm2) (fun h0 => IH _ _ _ _ ((if_neg h0).symm.trans h) H locs ls hl hR hS hm1 hm2)
theorem xs_if_acmp {p : Program} {l : Launch} {e : Env} {R : Room} {s : State} {m : MethodId} {args : Array Value} {below : List Frame} {meth : Method} {c : Code} {Q : State → Prop} {D : va_G} {ac : Nat → ClassId} {N0 T0 MI bS LS : Nat} {xs : Nat → Int32} {K : xK} {mi pc : Nat} {lv : xL} {st : List xV} {M M0 M' : xM} {v : Option xV} {a b3 c3 : Nat} {op : ClassFile.ACond} {off : Int} (hF : xFr p R s m args meth c D ac N0 T0 MI bS LS xs mi) (hd : decode (xbytes mi) pc = .ok (.if_acmp op off, xlen (.if_acmp op off))) (hk : xlks mi pc (.if_acmp op off) a b3 c3 = true) (IH : ∀ pc lv st M, K mi pc lv st M = some (v, M') → xWd p l e R s m args below meth c Q D ac N0 T0 bS LS xs mi M0 pc lv st M) (h : xexec T0 MI K mi pc lv st M (.if_acmp op off) a b3 c3 = some (v, M')) : xWd p l e R s m args below meth c Q D ac N0 T0 bS LS xs mi M0 pc lv st M := by
  obtain ⟨hx, hb, hml, hown, hts, hC, hnm, hfr, hlo⟩ := hF
  obtain ⟨y, r, rfl, h⟩ := xp1R_some h
  obtain ⟨x, r, rfl, h⟩ := xp1R_some h
  have ht := of_decide_eq_true hk
  intro H locs ls hl hR hS hm1 hm2
  cases op with
  | eq => exact lv_acmp_eq hx hb hd ht (fun h0 => IH _ _ _ _ ((if_pos h0).symm.trans h) H locs ls hl hR hS hm1 hm2) (fun h0 => IH _ _ _ _ ((if_neg h0).symm.trans h) H locs ls hl hR hS hm1 hm2)
  | ne => exact lv_acmp_ne hx hb hd ht (fun h0 => IH _ _ _ _ ((if_neg h0).symm.trans h) H locs ls hl hR hS hm1 hm2) (fun h0 => IH _ _ _ _ ((if_pos h0).symm.trans h) H locs ls hl hR hS hm1 hm2)
theorem xs_ifnull {p : Program} {l : Launch} {e : Env} {R : Room} {s : State} {m : MethodId} {args : Array Value} {below : List Frame} {meth : Method} {c : Code} {Q : State → Prop} {D : va_G} {ac : Nat → ClassId} {N0 T0 MI bS LS : Nat} {xs : Nat → Int32} {K : xK} {mi pc : Nat} {lv : xL} {st : List xV} {M M0 M' : xM} {v : Option xV} {a b3 c3 : Nat} {off : Int} (hF : xFr p R s m args meth c D ac N0 T0 MI bS LS xs mi) (hd : decode (xbytes mi) pc = .ok (.ifnull off, xlen (.ifnull off))) (hk : xlks mi pc (.ifnull off) a b3 c3 = true) (IH : ∀ pc lv st M, K mi pc lv st M = some (v, M') → xWd p l e R s m args below meth c Q D ac N0 T0 bS LS xs mi M0 pc lv st M) (h : xexec T0 MI K mi pc lv st M (.ifnull off) a b3 c3 = some (v, M')) : xWd p l e R s m args below meth c Q D ac N0 T0 bS LS xs mi M0 pc lv st M := by
  obtain ⟨hx, hb, hml, hown, hts, hC, hnm, hfr, hlo⟩ := hF
  obtain ⟨x, r, rfl, h⟩ := xp1R_some h
  have ht := of_decide_eq_true hk
  intro H locs ls hl hR hS hm1 hm2
  cases x with
  | none => exact lv_ifnullN hx hb hd ht (IH _ _ _ _ h H locs ls hl hR hS hm1 hm2)
  | some x => exact lv_ifnull hx hb hd (IH _ _ _ _ h H locs ls hl hR hS hm1 hm2)
theorem xs_ifnonnull {p : Program} {l : Launch} {e : Env} {R : Room} {s : State} {m : MethodId} {args : Array Value} {below : List Frame} {meth : Method} {c : Code} {Q : State → Prop} {D : va_G} {ac : Nat → ClassId} {N0 T0 MI bS LS : Nat} {xs : Nat → Int32} {K : xK} {mi pc : Nat} {lv : xL} {st : List xV} {M M0 M' : xM} {v : Option xV} {a b3 c3 : Nat} {off : Int} (hF : xFr p R s m args meth c D ac N0 T0 MI bS LS xs mi) (hd : decode (xbytes mi) pc = .ok (.ifnonnull off, xlen (.ifnonnull off))) (hk : xlks mi pc (.ifnonnull off) a b3 c3 = true) (IH : ∀ pc lv st M, K mi pc lv st M = some (v, M') → xWd p l e R s m args below meth c Q D ac N0 T0 bS LS xs mi M0 pc lv st M) (h : xexec T0 MI K mi pc lv st M (.ifnonnull off) a b3 c3 = some (v, M')) : xWd p l e R s m args below meth c Q D ac N0 T0 bS LS xs mi M0 pc lv st M := by
  obtain ⟨hx, hb, hml, hown, hts, hC, hnm, hfr, hlo⟩ := hF
  obtain ⟨x, r, rfl, h⟩ := xp1R_some h
  have ht := of_decide_eq_true hk
  intro H locs ls hl hR hS hm1 hm2
  cases x with
  | none => exact lv_ifnonnullN hx hb hd (IH _ _ _ _ h H locs ls hl hR hS hm1 hm2)
  | some x => exact lv_ifnonnull hx hb hd ht (IH _ _ _ _ h H locs ls hl hR hS hm1 hm2)
theorem xs_goto {p : Program} {l : Launch} {e : Env} {R : Room} {s : State} {m : MethodId} {args : Array Value} {below : List Frame} {meth : Method} {c : Code} {Q : State → Prop} {D : va_G} {ac : Nat → ClassId} {N0 T0 MI bS LS : Nat} {xs : Nat → Int32} {K : xK} {mi pc : Nat} {lv : xL} {st : List xV} {M M0 M' : xM} {v : Option xV} {a b3 c3 : Nat} {off : Int} (hF : xFr p R s m args meth c D ac N0 T0 MI bS LS xs mi) (hd : decode (xbytes mi) pc = .ok (.goto off, xlen (.goto off))) (hk : xlks mi pc (.goto off) a b3 c3 = true) (IH : ∀ pc lv st M, K mi pc lv st M = some (v, M') → xWd p l e R s m args below meth c Q D ac N0 T0 bS LS xs mi M0 pc lv st M) (h : xexec T0 MI K mi pc lv st M (.goto off) a b3 c3 = some (v, M')) : xWd p l e R s m args below meth c Q D ac N0 T0 bS LS xs mi M0 pc lv st M := by
  obtain ⟨hx, hb, hml, hown, hts, hC, hnm, hfr, hlo⟩ := hF
  have ht := of_decide_eq_true hk
  intro H locs ls hl hR hS hm1 hm2
  exact lv_goto hx hb hd ht (IH _ _ _ _ h H locs ls hl hR hS hm1 hm2)
theorem xs_tableswitch {p : Program} {l : Launch} {e : Env} {R : Room} {s : State} {m : MethodId} {args : Array Value} {below : List Frame} {meth : Method} {c : Code} {Q : State → Prop} {D : va_G} {ac : Nat → ClassId} {N0 T0 MI bS LS : Nat} {xs : Nat → Int32} {K : xK} {mi pc : Nat} {lv : xL} {st : List xV} {M M0 M' : xM} {v : Option xV} {a b3 c3 : Nat} {d lo hi : Int} {offs : Array Int} {len : Nat} (hF : xFr p R s m args meth c D ac N0 T0 MI bS LS xs mi) (hd : decode (xbytes mi) pc = .ok (.tableswitch d lo hi offs, len)) (hk : xlks mi pc (.tableswitch d lo hi offs) a b3 c3 = true) (IH : ∀ pc lv st M, K mi pc lv st M = some (v, M') → xWd p l e R s m args below meth c Q D ac N0 T0 bS LS xs mi M0 pc lv st M) (h : xexec T0 MI K mi pc lv st M (.tableswitch d lo hi offs) a b3 c3 = some (v, M')) : xWd p l e R s m args below meth c Q D ac N0 T0 bS LS xs mi M0 pc lv st M := by
  obtain ⟨hx, hb, hml, hown, hts, hC, hnm, hfr, hlo⟩ := hF
  obtain ⟨x, r, rfl, h⟩ := xp1I_some h
  have hk := (Bool.and_eq_true _ _ ▸ hk : _ ∧ _)
  have hn : ∀ z : Int, 0 ≤ z → z = ((z.toNat : Nat) : Int) := fun z hz => (Int.toNat_of_nonneg hz).symm
  intro H locs ls hl hR hS hm1 hm2
  by_cases h0 : x.toInt < lo ∨ hi < x.toInt
  · exact lv_tableOut hx hb hd h0 (hn _ (of_decide_eq_true hk.1)) (IH _ _ _ _ ((if_pos h0).symm.trans h) H locs ls hl hR hS hm1 hm2)
  · obtain ⟨of, h1, h⟩ := xbind ((if_neg h0).symm.trans h)
    have h2 : 0 ≤ (pc : Int) + of := of_decide_eq_true (List.all_eq_true.mp hk.2 of (by
      have := Array.mem_of_getElem? h1
      exact Array.mem_toList_iff.mpr this))
    exact lv_tableIn hx hb hd (fun q => h0 (Or.inl q)) (fun q => h0 (Or.inr q)) h1 (hn _ h2) (IH _ _ _ _ h H locs ls hl hR hS hm1 hm2)
