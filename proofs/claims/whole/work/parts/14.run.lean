section
variable {mc md cl lc cu h B : Nat} {st rt lh rd re cy : Int32} {oo oa ob oc lg hn rg tg : Nat → Int32} {d s lv rs bd yr p q n m : Nat → Nat} {c r t x a b : Nat} {l L : List Nat}
theorem qc_step (K : qc_K mc md cl lc h B oo oa ob oc lv bd) (I : qc_I mc md oo oa ob d s lv rs yr p q n m (c :: l)) (hB : B < 2147483647) : qc_Out B (nI mc, nI md, nI cl, nI lc, 1, 0, nI c, nI h, 0, re, oo, oa, ob, oc, lg, hn, (fun zz => nI (s zz)), (fun zz => nI (rs zz)), (fun zz => nI (bd zz)), (fun zz => nI (d zz)), (fun zz => nI (p zz)), (fun zz => nI (n zz)), rg, tg) (nI mc, nI md, 1, 0, nI c, nI h, nI cl, nI lc, oo, oa, ob, oc, lg, hn, (fun zz => nI (d zz)), (fun zz => nI (rs zz)), (fun zz => nI (bd zz)), (fun zz => nI (yr zz)), (fun zz => nI (lv zz)), rg, (fun zz => nI (q zz)), (fun zz => nI (m zz)), tg) := by
  generalize hp : p (c * 6 + d c - 1) = x
  by_cases hx : x < cl
  · rcases K.2.2.2.2.2.1 x hx with ⟨ho, ⟨a, a8, ha⟩⟩ | ⟨ho, ⟨a, a8, ha⟩, ⟨b, b8, hb⟩⟩ | ⟨ho, ⟨a, a8, ha⟩, ⟨b, b8, hb⟩, ⟨g, g8, hc⟩⟩ | ⟨ho, ⟨a, a8, ha⟩⟩ | ⟨ho, ⟨a, a8, ha⟩, ⟨b, b6, hb⟩⟩ | ⟨ho, ⟨a, a8, ha⟩, ⟨b, b6, hb⟩, ⟨g, g8, hc⟩⟩
    · rcases ho with ho | ho | ho | ho | ho | ho
      · exact qc_o0 K I hp hx ho ha a8
      · exact qc_o8 K I hp hx ho ha a8
      · exact qc_o9 K I hp hx ho ha a8
      · exact qc_o10 K I hp hx ho ha a8
      · exact qc_o11 K I hp hx ho ha a8
      · exact qc_o18 K I hp hx ho ha a8
    · rcases ho with ho | ho | ho | ho
      · exact qc_o1 K I hp hx ho ha a8 hb b8
      · exact qc_o15 K I hp hx ho ha a8 hb b8
      · exact qc_o16 K I hp hx ho ha a8 hb b8
      · exact qc_o17 K I hp hx ho ha a8 hb b8
    · rcases ho with ho | ho | ho | ho | ho
      · exact qc_o2 K I hp hx ho ha a8 hb b8 hc g8
      · exact qc_o3 K I hp hx ho ha a8 hb b8 hc g8
      · exact qc_o4 K I hp hx ho ha a8 hb b8 hc g8
      · exact qc_o13 K I hp hx ho ha a8 hb b8 hc g8
      · exact qc_o14 K I hp hx ho ha a8 hb b8 hc g8
    · exact qc_o5 K I hp hx ho ha a8
    · rcases ho with ho | ho
      · exact qc_o6 K I hp hx ho ha a8 hb b6
      · exact qc_o12 K I hp hx hB ho ha a8 hb b6
    · exact qc_o7 K I hp hx ho ha a8 hb b6 hc g8
  · exact qc_bad K I hp (by omega)
def qc_fX (u : SX) : Int32 := match u with
  | (_, _, _, _, st, _) => st
def qc_fY (v : SY) : Int32 := match v with
  | (_, _, st, _) => st
end
