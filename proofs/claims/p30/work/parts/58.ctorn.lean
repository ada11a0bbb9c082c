def N7 (U : State) : Prop := NestN [(RX7, 9, yX5_init, "ShapeFits"), (RX7, 18, yX6_init, "ShapeFits"), (RX7, 32, yX1_init, "ShapeFits")] U ∧ NestN [(RX6, 17, yX5_init, "ShapeFits")] U ∧ N2 U ∧ N4 U
theorem N7.call (a : Array Value) (U : State) (g : JFrame) (mk : MethodId) (h : N7 U) : N7 (U.calling g mk a) := ⟨NestN.call a U g mk h.1, NestN.call a U g mk h.2.1, N2.call a U g mk h.2.2.1, N4.call a U g mk h.2.2.2⟩
theorem N7.warm {s U : State} (h : N7 s) (hW : s.WarmedH U.vm) : N7 U := ⟨NestN.warm h.1 hW, NestN.warm h.2.1 hW, N2.warm h.2.2.1 hW, N4.warm h.2.2.2 hW⟩
