/-! what the tables' words say of each row of code -/
def zlen (i : Instr) (n : Nat) : Bool := match i with
  | .tableswitch .. => true
  | .lookupswitch .. => true
  | .aload _ | .iload _ | .lload _ | .istore _ | .astore _ | .lstore _ | .bipush _ | .newarray _ => n == 2
  | .sipush _ | .ldc2_w _ | .getfield _ | .putfield _ | .anewarray _ | .new _ | .iinc .. | .goto _ | .ifCond .. | .if_icmp .. | .invokevirtual _ | .invokespecial _ | .invokestatic _ => n == 3
  | _ => n == 1
def zw (w : Nat) (c : Cond) : Bool := decide (lw_tbl[w]? = some c)
def zOw (y : Nat) : String := (zN y).cls
def zFl (a b : Nat) : String × String × String × Bool := match zcl[a]? with
  | some q => q.2.1 b
  | none => ("", "", "", true)
def zCl (a : Nat) : String := match zcl[a]? with
  | some q => q.1
  | none => ""
def zfl (y i a b w : Nat) : Bool := decide (a < 11) && decide (b < zNf a) && ((zw w (.fieldLink (zOw y) i (zFl a b).1 (zFl a b).2.1 (zFl a b).2.2.1) && goodWord (.fieldLink (zOw y) i (zFl a b).1 (zFl a b).2.1 (zFl a b).2.2.1)) || zw w (.fieldLinkNest (zOw y) i (zFl a b).1 (zFl a b).2.1 (zFl a b).2.2.1 "FiveInks"))
def zml (y i a w : Nat) : Bool := decide (a < 187) && decide (zF a + 1 ≤ zF y) && decide (8 + (zL a + 11) + zO a ≤ zO y) &&
  ((zw w (.methodLink (zOw y) i (zN a)) && goodWord (.methodLink (zOw y) i (zN a))) || zw w (.methodLinkNest (zOw y) i (zN a) "FiveInks"))
def zini (y : Nat) : Bool := decide ((zN y).name = "<init>")
def zRw (y : Nat) (r : zRow) : Bool := match r.1 with
  | .getfield i => zfl y i r.2.2.1 r.2.2.2.1 r.2.2.2.2
  | .putfield i => zfl y i r.2.2.1 r.2.2.2.1 r.2.2.2.2 && (!(zFl r.2.2.1 r.2.2.2.1).2.2.2 || (zini y && decide (zOw y = (zFl r.2.2.1 r.2.2.2.1).1)))
  | .ldc2_w i => zw r.2.2.2.2 (.constantLong (zOw y) i (Int64.ofNat r.2.2.1)) && goodWord (.constantLong (zOw y) i (Int64.ofNat r.2.2.1))
  | .new i => zw r.2.2.2.2 (.classLink (zOw y) i (zCl r.2.2.1)) && goodWord (.classLink (zOw y) i (zCl r.2.2.1)) && decide (r.2.2.1 < 11)
  | .anewarray i => zw r.2.2.2.2 (.classLink (zOw y) i "FiveInks$Sheet") && goodWord (.classLink (zOw y) i "FiveInks$Sheet")
  | .invokevirtual i => zml y i r.2.2.1 r.2.2.2.2 && !zSt r.2.2.1 && !zini r.2.2.1
  | .invokespecial i => if r.2.2.1 = 1000 then zw r.2.2.2.2 (.methodLink (zOw y) i objectInit) && goodWord (.methodLink (zOw y) i objectInit) && decide (1 ≤ zF y) && decide (20 ≤ zO y)
      else zml y i r.2.2.1 r.2.2.2.2 && !zSt r.2.2.1 && zini r.2.2.1 && decide (zRt r.2.2.1 = none)
  | .invokestatic i => if r.2.2.1 = 1001 then zw r.2.2.2.2 (.methodLink (zOw y) i arraycopyName) && goodWord (.methodLink (zOw y) i arraycopyName) && decide (1 ≤ zF y) && decide (26 ≤ zO y)
      else if r.2.2.1 = 1002 then zw r.2.2.2.2 (.methodLink (zOw y) i Lib.Math.min.name) && goodWord (.methodLink (zOw y) i Lib.Math.min.name) && decide (1 ≤ zF y) && decide (21 ≤ zO y)
      else zml y i r.2.2.1 r.2.2.2.2 && zSt r.2.2.1
  | _ => true
def zOK (y pc : Nat) (r : zRow) : Bool := decide (decode (zB y) pc = .ok (r.1, r.2.1)) && zlen r.1 r.2.1 && zRw y r
def zOKs (y : Nat) (l : List (Nat × zRow)) : Bool := l.all fun q => zOK y q.1 q.2
theorem zlk_mem : ∀ (l : List (Nat × zRow)) (pc : Nat) (r : zRow), zlk l pc = some r → (pc, r) ∈ l
  | [], _, _, h => by simp [zlk] at h
  | q :: l, pc, r, h => by
    unfold zlk at h
    cases e : Nat.beq q.1 pc with
    | true =>
      rw [e] at h
      have h1 := Nat.eq_of_beq_eq_true e
      have h2 : q.2 = r := Option.some.inj h
      rw [← h1, ← h2]
      exact List.mem_cons_self
    | false =>
      rw [e] at h
      exact List.mem_cons_of_mem _ (zlk_mem l pc r h)

theorem zok0 : zOKs 0 zp0 = true := by decide +kernel
theorem zok1 : zOKs 1 zp1 = true := by decide +kernel
theorem zok2 : zOKs 2 zp2 = true := by decide +kernel
theorem zok3 : zOKs 3 zp3 = true := by decide +kernel
theorem zok4 : zOKs 4 zp4 = true := by decide +kernel
theorem zok5 : zOKs 5 zp5 = true := by decide +kernel
theorem zok6 : zOKs 6 zp6 = true := by decide +kernel
theorem zok7 : zOKs 7 zp7 = true := by decide +kernel
theorem zok8 : zOKs 8 zp8 = true := by decide +kernel
theorem zok9 : zOKs 9 zp9 = true := by decide +kernel
theorem zok10 : zOKs 10 zp10 = true := by decide +kernel
theorem zok11 : zOKs 11 zp11 = true := by decide +kernel
theorem zok12 : zOKs 12 zp12 = true := by decide +kernel
theorem zok13 : zOKs 13 zp13 = true := by decide +kernel
theorem zok14 : zOKs 14 zp14 = true := by decide +kernel
theorem zok15 : zOKs 15 zp15 = true := by decide +kernel
theorem zok16 : zOKs 16 zp16 = true := by decide +kernel
theorem zok17 : zOKs 17 zp17 = true := by decide +kernel
theorem zok18 : zOKs 18 zp18 = true := by decide +kernel
theorem zok19 : zOKs 19 zp19 = true := by decide +kernel
theorem zok20 : zOKs 20 zp20 = true := by decide +kernel
theorem zok21 : zOKs 21 zp21 = true := by decide +kernel
theorem zok22 : zOKs 22 zp22 = true := by decide +kernel
theorem zok23 : zOKs 23 zp23 = true := by decide +kernel
theorem zok24 : zOKs 24 zp24 = true := by decide +kernel
theorem zok25 : zOKs 25 zp25 = true := by decide +kernel
theorem zok26 : zOKs 26 zp26 = true := by decide +kernel
theorem zok27 : zOKs 27 zp27 = true := by decide +kernel
theorem zok28 : zOKs 28 zp28 = true := by decide +kernel
theorem zok29 : zOKs 29 zp29 = true := by decide +kernel
theorem zok30 : zOKs 30 zp30 = true := by decide +kernel
theorem zok31 : zOKs 31 zp31 = true := by decide +kernel
theorem zok32 : zOKs 32 zp32 = true := by decide +kernel
theorem zok33 : zOKs 33 zp33 = true := by decide +kernel
theorem zok34 : zOKs 34 zp34 = true := by decide +kernel
theorem zok35 : zOKs 35 zp35 = true := by decide +kernel
theorem zok36 : zOKs 36 zp36 = true := by decide +kernel
theorem zok37 : zOKs 37 zp37 = true := by decide +kernel
theorem zok38 : zOKs 38 zp38 = true := by decide +kernel
theorem zok39 : zOKs 39 zp39 = true := by decide +kernel
theorem zok40 : zOKs 40 zp40 = true := by decide +kernel
theorem zok41 : zOKs 41 zp41 = true := by decide +kernel
theorem zok42 : zOKs 42 zp42 = true := by decide +kernel
theorem zok43 : zOKs 43 zp43 = true := by decide +kernel
theorem zok44 : zOKs 44 zp44 = true := by decide +kernel
theorem zok45 : zOKs 45 zp45 = true := by decide +kernel
theorem zok46 : zOKs 46 zp46 = true := by decide +kernel
theorem zok47 : zOKs 47 zp47 = true := by decide +kernel
theorem zok48 : zOKs 48 zp48 = true := by decide +kernel
theorem zok49 : zOKs 49 zp49 = true := by decide +kernel
theorem zok50 : zOKs 50 zp50 = true := by decide +kernel
theorem zok51 : zOKs 51 zp51 = true := by decide +kernel
theorem zok52 : zOKs 52 zp52 = true := by decide +kernel
theorem zok53 : zOKs 53 zp53 = true := by decide +kernel
theorem zok54 : zOKs 54 zp54 = true := by decide +kernel
theorem zok55 : zOKs 55 zp55 = true := by decide +kernel
theorem zok56 : zOKs 56 zp56 = true := by decide +kernel
theorem zok57 : zOKs 57 zp57 = true := by decide +kernel
theorem zok58 : zOKs 58 zp58 = true := by decide +kernel
theorem zok59 : zOKs 59 zp59 = true := by decide +kernel
theorem zok60 : zOKs 60 zp60 = true := by decide +kernel
theorem zok61 : zOKs 61 zp61 = true := by decide +kernel
theorem zok62 : zOKs 62 zp62 = true := by decide +kernel
theorem zok63 : zOKs 63 zp63 = true := by decide +kernel
theorem zok64 : zOKs 64 zp64 = true := by decide +kernel
theorem zok65 : zOKs 65 zp65 = true := by decide +kernel
theorem zok66 : zOKs 66 zp66 = true := by decide +kernel
theorem zok67 : zOKs 67 zp67 = true := by decide +kernel
theorem zok68 : zOKs 68 zp68 = true := by decide +kernel
theorem zok69 : zOKs 69 zp69 = true := by decide +kernel
theorem zok70 : zOKs 70 zp70 = true := by decide +kernel
theorem zok71 : zOKs 71 zp71 = true := by decide +kernel
theorem zok72 : zOKs 72 zp72 = true := by decide +kernel
theorem zok73 : zOKs 73 zp73 = true := by decide +kernel
theorem zok74 : zOKs 74 zp74 = true := by decide +kernel
theorem zok75 : zOKs 75 zp75 = true := by decide +kernel
theorem zok76 : zOKs 76 zp76 = true := by decide +kernel
theorem zok77 : zOKs 77 zp77 = true := by decide +kernel
theorem zok78 : zOKs 78 zp78 = true := by decide +kernel
theorem zok79 : zOKs 79 zp79 = true := by decide +kernel
theorem zok80 : zOKs 80 zp80 = true := by decide +kernel
theorem zok81 : zOKs 81 zp81 = true := by decide +kernel
theorem zok82 : zOKs 82 zp82 = true := by decide +kernel
theorem zok83 : zOKs 83 zp83 = true := by decide +kernel
theorem zok84 : zOKs 84 zp84 = true := by decide +kernel
theorem zok85 : zOKs 85 zp85 = true := by decide +kernel
theorem zok86 : zOKs 86 zp86 = true := by decide +kernel
theorem zok87 : zOKs 87 zp87 = true := by decide +kernel
theorem zok88 : zOKs 88 zp88 = true := by decide +kernel
theorem zok89 : zOKs 89 zp89 = true := by decide +kernel
theorem zok90 : zOKs 90 zp90 = true := by decide +kernel
theorem zok91 : zOKs 91 zp91 = true := by decide +kernel
theorem zok92 : zOKs 92 zp92 = true := by decide +kernel
theorem zok93 : zOKs 93 zp93 = true := by decide +kernel
theorem zok94 : zOKs 94 zp94 = true := by decide +kernel
theorem zok95 : zOKs 95 zp95 = true := by decide +kernel
theorem zok96 : zOKs 96 zp96 = true := by decide +kernel
theorem zok97 : zOKs 97 zp97 = true := by decide +kernel
theorem zok98 : zOKs 98 zp98 = true := by decide +kernel
theorem zok99 : zOKs 99 zp99 = true := by decide +kernel
theorem zok100 : zOKs 100 zp100 = true := by decide +kernel
theorem zok101 : zOKs 101 zp101 = true := by decide +kernel
theorem zok102 : zOKs 102 zp102 = true := by decide +kernel
theorem zok103 : zOKs 103 zp103 = true := by decide +kernel
theorem zok104 : zOKs 104 zp104 = true := by decide +kernel
theorem zok105 : zOKs 105 zp105 = true := by decide +kernel
theorem zok106 : zOKs 106 zp106 = true := by decide +kernel
theorem zok107 : zOKs 107 zp107 = true := by decide +kernel
theorem zok108 : zOKs 108 zp108 = true := by decide +kernel
theorem zok109 : zOKs 109 zp109 = true := by decide +kernel
theorem zok110 : zOKs 110 zp110 = true := by decide +kernel
theorem zok111 : zOKs 111 zp111 = true := by decide +kernel
theorem zok112 : zOKs 112 zp112 = true := by decide +kernel
theorem zok113 : zOKs 113 zp113 = true := by decide +kernel
theorem zok114 : zOKs 114 zp114 = true := by decide +kernel
theorem zok115 : zOKs 115 zp115 = true := by decide +kernel
theorem zok116 : zOKs 116 zp116 = true := by decide +kernel
theorem zok117 : zOKs 117 zp117 = true := by decide +kernel
theorem zok118 : zOKs 118 zp118 = true := by decide +kernel
theorem zok119 : zOKs 119 zp119 = true := by decide +kernel
theorem zok120 : zOKs 120 zp120 = true := by decide +kernel
theorem zok121 : zOKs 121 zp121 = true := by decide +kernel
theorem zok122 : zOKs 122 zp122 = true := by decide +kernel
theorem zok123 : zOKs 123 zp123 = true := by decide +kernel
theorem zok124 : zOKs 124 zp124 = true := by decide +kernel
theorem zok125 : zOKs 125 zp125 = true := by decide +kernel
theorem zok126 : zOKs 126 zp126 = true := by decide +kernel
theorem zok127 : zOKs 127 zp127 = true := by decide +kernel
theorem zok128 : zOKs 128 zp128 = true := by decide +kernel
theorem zok129 : zOKs 129 zp129 = true := by decide +kernel
theorem zok130 : zOKs 130 zp130 = true := by decide +kernel
theorem zok131 : zOKs 131 zp131 = true := by decide +kernel
theorem zok132 : zOKs 132 zp132 = true := by decide +kernel
theorem zok133 : zOKs 133 zp133 = true := by decide +kernel
theorem zok134 : zOKs 134 zp134 = true := by decide +kernel
theorem zok135 : zOKs 135 zp135 = true := by decide +kernel
theorem zok136 : zOKs 136 zp136 = true := by decide +kernel
theorem zok137 : zOKs 137 zp137 = true := by decide +kernel
theorem zok138 : zOKs 138 zp138 = true := by decide +kernel
theorem zok139 : zOKs 139 zp139 = true := by decide +kernel
theorem zok140 : zOKs 140 zp140 = true := by decide +kernel
theorem zok141 : zOKs 141 zp141 = true := by decide +kernel
theorem zok142 : zOKs 142 zp142 = true := by decide +kernel
theorem zok143 : zOKs 143 zp143 = true := by decide +kernel
theorem zok144 : zOKs 144 zp144 = true := by decide +kernel
theorem zok145 : zOKs 145 zp145 = true := by decide +kernel
theorem zok146 : zOKs 146 zp146 = true := by decide +kernel
theorem zok147 : zOKs 147 zp147 = true := by decide +kernel
theorem zok148 : zOKs 148 zp148 = true := by decide +kernel
theorem zok149 : zOKs 149 zp149 = true := by decide +kernel
theorem zok150 : zOKs 150 zp150 = true := by decide +kernel
theorem zok151 : zOKs 151 zp151 = true := by decide +kernel
theorem zok152 : zOKs 152 zp152 = true := by decide +kernel
theorem zok153 : zOKs 153 zp153 = true := by decide +kernel
theorem zok154 : zOKs 154 zp154 = true := by decide +kernel
theorem zok155 : zOKs 155 zp155 = true := by decide +kernel
theorem zok156 : zOKs 156 zp156 = true := by decide +kernel
theorem zok157 : zOKs 157 zp157 = true := by decide +kernel
theorem zok158 : zOKs 158 zp158 = true := by decide +kernel
theorem zok159 : zOKs 159 zp159 = true := by decide +kernel
theorem zok160 : zOKs 160 zp160 = true := by decide +kernel
theorem zok161 : zOKs 161 zp161 = true := by decide +kernel
theorem zok162 : zOKs 162 zp162 = true := by decide +kernel
theorem zok163 : zOKs 163 zp163 = true := by decide +kernel
theorem zok164 : zOKs 164 zp164 = true := by decide +kernel
theorem zok165 : zOKs 165 zp165 = true := by decide +kernel
theorem zok166 : zOKs 166 zp166 = true := by decide +kernel
theorem zok167 : zOKs 167 zp167 = true := by decide +kernel
theorem zok168 : zOKs 168 zp168 = true := by decide +kernel
theorem zok169 : zOKs 169 zp169 = true := by decide +kernel
theorem zok170 : zOKs 170 zp170 = true := by decide +kernel
theorem zok171 : zOKs 171 zp171 = true := by decide +kernel
theorem zok172 : zOKs 172 zp172 = true := by decide +kernel
theorem zok173 : zOKs 173 zp173 = true := by decide +kernel
theorem zok174 : zOKs 174 zp174 = true := by decide +kernel
theorem zok175 : zOKs 175 zp175 = true := by decide +kernel
theorem zok176 : zOKs 176 zp176 = true := by decide +kernel
theorem zok177 : zOKs 177 zp177 = true := by decide +kernel
theorem zok178 : zOKs 178 zp178 = true := by decide +kernel
theorem zok179 : zOKs 179 zp179 = true := by decide +kernel
theorem zok180 : zOKs 180 zp180 = true := by decide +kernel
theorem zok181 : zOKs 181 zp181 = true := by decide +kernel
theorem zok182 : zOKs 182 zp182 = true := by decide +kernel
theorem zok183 : zOKs 183 zp183 = true := by decide +kernel
theorem zok184 : zOKs 184 zp184 = true := by decide +kernel
theorem zok185 : zOKs 185 zp185 = true := by decide +kernel
theorem zok186 : zOKs 186 zp186 = true := by decide +kernel
theorem zok187 : zOKs 187 zp187 = true := by decide +kernel
