/-! ===== a store of a reference: the shape table changes ===== -/
theorem zset_r {G : kG} {Z Z' : Nat → zSh} {n k j t ci N : Nat} {a : Nat → Nat} {g : Nat → Nat → Int32} {L : Nat → Nat → Int64} {ft ft' : Nat → Option (Option Nat)} (hZ : Z k = .inl (ci, N, ft)) (hZ' : Z' k = .inl (ci, N, ft')) (hne : ∀ k', k' ≠ k → Z' k' = Z k') (hf : ft' j = some (some t)) (hfn : ∀ j', j' ≠ j → ft' j' = ft j') : (zw G Z n a g L).set k (a k, .inr (ci, ofL N (updV (zF a g L k ft) j (.ref (a t))))) = zw G Z' n a g L := by
  apply List.ext_getElem?
  intro i
  have hlen : (zw G Z n a g L).length = n := by simp [zw]
  have hlen' : (zw G Z' n a g L).length = n := by simp [zw]
  by_cases hi : i < n
  · rw [zat (sh := Z' i) hi rfl, List.getElem?_set]
    by_cases hk : k = i
    · subst hk
      rw [if_pos rfl, if_pos (by rw [hlen]; exact hi), hZ']
      show some (a k, (Sum.inr (ci, ofL N (updV (zF a g L k ft) j (.ref (a t)))) : va_E)) = some (a k, Sum.inr (ci, ofL N (zF a g L k ft')))
      congr 5
      funext j'
      unfold updV zF
      by_cases h : j' = j
      · subst h; rw [if_pos rfl, hf]
      · rw [if_neg h, hfn j' h]
    · rw [if_neg hk, zat (sh := Z i) hi rfl, hne i (Ne.symm hk)]
  · rw [List.getElem?_eq_none (by rw [List.length_set, hlen]; omega), List.getElem?_eq_none (by rw [hlen']; omega)]
theorem xs_nb {b b' k : Nat} (h : k ≠ 5) : XS b' k = XS b k := by
  unfold XS
  split
  · split <;> first | rfl | exact absurd rfl h
  · rfl
theorem xf_5n {b b' j : Nat} (h : j ≠ 1) : xf_5 b' j = xf_5 b j := by
  unfold xf_5
  split <;> first | rfl | exact absurd rfl h
section XRF
variable {p : Program} {l : Launch} {e : Env} {R : Room} {s : State} {m : MethodId} {args : Array Value} {below : List Frame} {meth : Method} {c : Code} {H : Heap} {locs : List Loc} {cells slots : Nat} {Q : State → Prop} {cc : ByteArray} {nL pc : Nat} {ls : Array Slot} {rest : List Value} {G : kG} {own : String} {A : Nat → Prop} {a : Nat → Nat} {g : Nat → Nat → Int32} {L : Nat → Nat → Int64}
theorem x_putPlan {index b t : Nat} {ty : FieldType} {O : String} (Lk : kFG own index 6 11 1) (FT : kFT 6 1 ty false O) (C : kC G p s m c cc nL own A) (hP : va_P G.1 vwCl (zw G (XS b) 105 a g L) H) (hD : va_D A (zw G (XS b) 105 a g L)) (hS : va_S A s.heap H locs) (hn : narrow ty (.ref (a t)) = .ref (a t)) (hfit : fits ty (.ref (a t)) = true) (hdg : decode cc pc = .ok (.putfield index, 3)) (kk : ∀ (H1 : Heap) (locs1 : List Loc), va_P G.1 vwCl (zw G (XS t) 105 a g L) H1 → va_D A (zw G (XS t) 105 a g L) → va_S A s.heap H1 locs1 → W p l e R s m args below meth c H1 locs1 cells slots Q (F0 m (pc + 3) ls rest)) : W p l e R s m args below meth c H locs cells slots Q (F0 m pc ls (.ref (a t) :: .ref (a 5) :: rest)) := by
  have hz : (zw G (XS b) 105 a g L).set 5 (a 5, .inr (6, ofL 11 (updV (zF a g L 5 (xf_5 b)) 1 (.ref (a t))))) = zw G (XS t) 105 a g L := zset_r xs_5 xs_5 (fun k' h => xs_nb h) rfl (fun j' h => xf_5n h)
  rcases Lk with h | h
  · refine k_put h FT C hP hD hS 5 (zat (by decide) xs_5) hn hfit hdg (fun H1 locs1 h1 h2 h3 => ?_)
    rw [hz] at h1 h2
    exact kk H1 locs1 h1 h2 h3
  · refine k_putN h FT C hP hD hS 5 (zat (by decide) xs_5) hn hfit hdg (fun H1 locs1 h1 h2 h3 => ?_)
    rw [hz] at h1 h2
    exact kk H1 locs1 h1 h2 h3
end XRF
