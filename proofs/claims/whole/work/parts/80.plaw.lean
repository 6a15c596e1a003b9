/-! ===== PURE: the law at a call ===== -/
def XS.lc_begin (x : XS) (g : (Int32 × Int32 × Int32 × Int32 × Nat × (Nat → Int32) × Nat × (Nat → Int32) × Nat × (Nat → Int32) × Int32 × Int32 × Int32 × Int32 × Int32 × Int32 × Int32 × Int32 × Int32 × Int32 × (Nat → Int32) × (Nat → Int32))) : XS := (x.c, g.1, g.2.1, g.2.2.1, g.2.2.2.1, g.2.2.2.2.1, g.2.2.2.2.2.1, g.2.2.2.2.2.2.1, g.2.2.2.2.2.2.2.1, g.2.2.2.2.2.2.2.2.1, g.2.2.2.2.2.2.2.2.2.1, x.planes, x.passes, x.segs, x.psty, x.first, x.rch, x.gns, x.less, x.fl, x.bk, x.rw, x.pl, g.2.2.2.2.2.2.2.2.2.2.1, g.2.2.2.2.2.2.2.2.2.2.2.1, g.2.2.2.2.2.2.2.2.2.2.2.2.1)
def YS.lc_begin (y : YS) (g : (Int32 × Int32 × Int32 × Int32 × Nat × (Nat → Int32) × Nat × (Nat → Int32) × Nat × (Nat → Int32) × Int32 × Int32 × Int32 × Int32 × Int32 × Int32 × Int32 × Int32 × Int32 × Int32 × (Nat → Int32) × (Nat → Int32))) : YS := (y.m, g.2.2.2.2.2.2.2.2.2.2.2.2.2.1, g.2.2.2.2.2.2.2.2.2.2.2.2.2.2.1, g.2.2.2.2.2.2.2.2.2.2.2.2.2.2.2.1, g.2.2.2.2.2.2.2.2.2.2.2.2.2.2.2.2.1, g.2.2.2.2.2.2.2.2.2.2.2.2.2.2.2.2.2.1, g.2.2.2.2.2.2.2.2.2.2.2.2.2.2.2.2.2.2.1, g.2.2.2.2.2.2.2.2.2.2.2.2.2.2.2.2.2.2.2.1, y.planes, y.passes, y.segs, y.wri, y.plane, y.raw, y.fl, y.mp, y.mo, g.2.2.2.2.2.2.2.2.2.2.2.2.2.2.2.2.2.2.2.2.1, g.2.2.2.2.2.2.2.2.2.2.2.2.2.2.2.2.2.2.2.2.2, y.rch, y.gns, y.mso, y.mbg, y.mln, y.known, y.below, y.latest, y.early, y.again)
def XS.lc_set (x : XS) (g : ((Nat → Int32) × Int32 × Int32 × Int32 × Int32 × Int32 × (Nat → Int32) × (Nat → Int32))) : XS := (x.c, x.wide, x.high, x.band, x.causal, x.cn, g.1, x.gn, x.mags, x.kn, x.marks, x.planes, x.passes, x.segs, x.psty, x.first, x.rch, x.gns, x.less, x.fl, x.bk, x.rw, x.pl, x.sty, g.2.1, g.2.2.1)
def YS.lc_set (y : YS) (g : ((Nat → Int32) × Int32 × Int32 × Int32 × Int32 × Int32 × (Nat → Int32) × (Nat → Int32))) : YS := (y.m, g.2.2.2.1, y.wide, y.high, y.band, y.sty, g.2.2.2.2.1, g.2.2.2.2.2.1, y.planes, y.passes, y.segs, y.wri, y.plane, y.raw, y.fl, y.mp, y.mo, g.2.2.2.2.2.2.1, g.2.2.2.2.2.2.2, y.rch, y.gns, y.mso, y.mbg, y.mln, y.known, y.below, y.latest, y.early, y.again)
def XS.lc_fill (x : XS) (g : ((Nat → Int32) × Int32 × Int32 × Int32 × Int32 × Int32 × (Nat → Int32) × (Nat → Int32))) : XS := (x.c, x.wide, x.high, x.band, x.causal, x.cn, g.1, x.gn, x.mags, x.kn, x.marks, x.planes, x.passes, x.segs, x.psty, x.first, x.rch, x.gns, x.less, x.fl, x.bk, x.rw, x.pl, x.sty, g.2.1, g.2.2.1)
def YS.lc_fill (y : YS) (g : ((Nat → Int32) × Int32 × Int32 × Int32 × Int32 × Int32 × (Nat → Int32) × (Nat → Int32))) : YS := (y.m, g.2.2.2.1, y.wide, y.high, y.band, y.sty, g.2.2.2.2.1, g.2.2.2.2.2.1, y.planes, y.passes, y.segs, y.wri, y.plane, y.raw, y.fl, y.mp, y.mo, g.2.2.2.2.2.2.1, g.2.2.2.2.2.2.2, y.rch, y.gns, y.mso, y.mbg, y.mln, y.known, y.below, y.latest, y.early, y.again)
def XS.lc_write (x : XS) (g : (Int32 × Int32 × Nat × (Nat → Int32) × (Nat → Int32) × (Nat → Int32) × Int32 × Int32 × Int32 × Int32 × Int32 × Int32 × Int32 × Int32 × Int32 × Int32 × Int32 × (Nat → Int32) × (Nat → Int32) × Int32 × Int32 × Int32 × Int32 × Int32 × (Nat → Int32) × (Nat → Int64) × Int64 × Int32 × Nat × Int32 × Int32 × Int32 × Int32 × Int32 × Int32 × Int32 × Int32 × Int32 × Int32 × Int32 × Int32 × Int32 × Int32 × Int32 × Int32 × Int32 × Int32 × Int32 × Int32 × Int32 × Int32 × Int64 × (Nat → Int32) × (Nat → Int64) × (Nat → Int32) × (Nat → Int32) × (Nat → Int32) × (Nat → Int32) × (Nat → Int32) × (Nat → Int32) × (Nat → Int32) × (Nat → Int32) × (Nat → Int32) × (Nat → Int32) × (Nat → Int32))) : XS := ((g.1, g.2.1, g.2.2.1, g.2.2.2.1, g.2.2.2.2.1, g.2.2.2.2.2.1, g.2.2.2.2.2.2.1, g.2.2.2.2.2.2.2.1, g.2.2.2.2.2.2.2.2.1, g.2.2.2.2.2.2.2.2.2.1, g.2.2.2.2.2.2.2.2.2.2.1, x.c.cend, g.2.2.2.2.2.2.2.2.2.2.2.1, g.2.2.2.2.2.2.2.2.2.2.2.2.1, g.2.2.2.2.2.2.2.2.2.2.2.2.2.1, g.2.2.2.2.2.2.2.2.2.2.2.2.2.2.1, x.c.rend, g.2.2.2.2.2.2.2.2.2.2.2.2.2.2.2.1, g.2.2.2.2.2.2.2.2.2.2.2.2.2.2.2.2.1), x.wide, x.high, x.band, x.causal, x.cn, x.coef, x.gn, g.2.2.2.2.2.2.2.2.2.2.2.2.2.2.2.2.2.1, x.kn, g.2.2.2.2.2.2.2.2.2.2.2.2.2.2.2.2.2.2.1, g.2.2.2.2.2.2.2.2.2.2.2.2.2.2.2.2.2.2.2.1, g.2.2.2.2.2.2.2.2.2.2.2.2.2.2.2.2.2.2.2.2.1, g.2.2.2.2.2.2.2.2.2.2.2.2.2.2.2.2.2.2.2.2.2.1, g.2.2.2.2.2.2.2.2.2.2.2.2.2.2.2.2.2.2.2.2.2.2.1, g.2.2.2.2.2.2.2.2.2.2.2.2.2.2.2.2.2.2.2.2.2.2.2.1, g.2.2.2.2.2.2.2.2.2.2.2.2.2.2.2.2.2.2.2.2.2.2.2.2.1, g.2.2.2.2.2.2.2.2.2.2.2.2.2.2.2.2.2.2.2.2.2.2.2.2.2.1, g.2.2.2.2.2.2.2.2.2.2.2.2.2.2.2.2.2.2.2.2.2.2.2.2.2.2.1, g.2.2.2.2.2.2.2.2.2.2.2.2.2.2.2.2.2.2.2.2.2.2.2.2.2.2.2.1, g.2.2.2.2.2.2.2.2.2.2.2.2.2.2.2.2.2.2.2.2.2.2.2.2.2.2.2.2.1, g.2.2.2.2.2.2.2.2.2.2.2.2.2.2.2.2.2.2.2.2.2.2.2.2.2.2.2.2.2.1, g.2.2.2.2.2.2.2.2.2.2.2.2.2.2.2.2.2.2.2.2.2.2.2.2.2.2.2.2.2.2.1, x.sty, g.2.2.2.2.2.2.2.2.2.2.2.2.2.2.2.2.2.2.2.2.2.2.2.2.2.2.2.2.2.2.2.1, g.2.2.2.2.2.2.2.2.2.2.2.2.2.2.2.2.2.2.2.2.2.2.2.2.2.2.2.2.2.2.2.2.1)
def YS.lc_write (y : YS) (g : (Int32 × Int32 × Nat × (Nat → Int32) × (Nat → Int32) × (Nat → Int32) × Int32 × Int32 × Int32 × Int32 × Int32 × Int32 × Int32 × Int32 × Int32 × Int32 × Int32 × (Nat → Int32) × (Nat → Int32) × Int32 × Int32 × Int32 × Int32 × Int32 × (Nat → Int32) × (Nat → Int64) × Int64 × Int32 × Nat × Int32 × Int32 × Int32 × Int32 × Int32 × Int32 × Int32 × Int32 × Int32 × Int32 × Int32 × Int32 × Int32 × Int32 × Int32 × Int32 × Int32 × Int32 × Int32 × Int32 × Int32 × Int32 × Int64 × (Nat → Int32) × (Nat → Int64) × (Nat → Int32) × (Nat → Int32) × (Nat → Int32) × (Nat → Int32) × (Nat → Int32) × (Nat → Int32) × (Nat → Int32) × (Nat → Int32) × (Nat → Int32) × (Nat → Int32) × (Nat → Int32))) : YS := ((g.2.2.2.2.2.2.2.2.2.2.2.2.2.2.2.2.2.2.2.2.2.2.2.2.2.2.2.2.2.2.2.2.2.2.2.2.2.2.2.2.2.2.2.1, g.2.2.2.2.2.2.2.2.2.2.2.2.2.2.2.2.2.2.2.2.2.2.2.2.2.2.2.2.2.2.2.2.2.2.2.2.2.2.2.2.2.2.2.2.1, g.2.2.2.2.2.2.2.2.2.2.2.2.2.2.2.2.2.2.2.2.2.2.2.2.2.2.2.2.2.2.2.2.2.2.2.2.2.2.2.2.2.2.2.2.2.1, g.2.2.2.2.2.2.2.2.2.2.2.2.2.2.2.2.2.2.2.2.2.2.2.2.2.2.2.2.2.2.2.2.2.2.2.2.2.2.2.2.2.2.2.2.2.2.1, g.2.2.2.2.2.2.2.2.2.2.2.2.2.2.2.2.2.2.2.2.2.2.2.2.2.2.2.2.2.2.2.2.2.2.2.2.2.2.2.2.2.2.2.2.2.2.2.1, g.2.2.2.2.2.2.2.2.2.2.2.2.2.2.2.2.2.2.2.2.2.2.2.2.2.2.2.2.2.2.2.2.2.2.2.2.2.2.2.2.2.2.2.2.2.2.2.2.1, y.m.place, y.m.limit, g.2.2.2.2.2.2.2.2.2.2.2.2.2.2.2.2.2.2.2.2.2.2.2.2.2.2.2.2.2.2.2.2.2.2.2.2.2.2.2.2.2.2.2.2.2.2.2.2.2.1, g.2.2.2.2.2.2.2.2.2.2.2.2.2.2.2.2.2.2.2.2.2.2.2.2.2.2.2.2.2.2.2.2.2.2.2.2.2.2.2.2.2.2.2.2.2.2.2.2.2.2.1, g.2.2.2.2.2.2.2.2.2.2.2.2.2.2.2.2.2.2.2.2.2.2.2.2.2.2.2.2.2.2.2.2.2.2.2.2.2.2.2.2.2.2.2.2.2.2.2.2.2.2.2.1, g.2.2.2.2.2.2.2.2.2.2.2.2.2.2.2.2.2.2.2.2.2.2.2.2.2.2.2.2.2.2.2.2.2.2.2.2.2.2.2.2.2.2.2.2.2.2.2.2.2.2.2.2.2.2.2.2.2.2.2.2.2.2.1, g.2.2.2.2.2.2.2.2.2.2.2.2.2.2.2.2.2.2.2.2.2.2.2.2.2.2.2.2.2.2.2.2.2.2.2.2.2.2.2.2.2.2.2.2.2.2.2.2.2.2.2.2.2.2.2.2.2.2.2.2.2.2.2.1, g.2.2.2.2.2.2.2.2.2.2.2.2.2.2.2.2.2.2.2.2.2.2.2.2.2.2.2.2.2.2.2.2.2.2.2.2.2.2.2.2.2.2.2.2.2.2.2.2.2.2.2.2.2.2.2.2.2.2.2.2.2.2.2.2), g.2.2.2.2.2.2.2.2.2.2.2.2.2.2.2.2.2.2.2.2.2.2.2.2.2.2.2.2.2.2.2.2.2.1, y.wide, y.high, y.band, y.sty, g.2.2.2.2.2.2.2.2.2.2.2.2.2.2.2.2.2.2.2.2.2.2.2.2.2.2.2.2.2.2.2.2.2.2.1, g.2.2.2.2.2.2.2.2.2.2.2.2.2.2.2.2.2.2.2.2.2.2.2.2.2.2.2.2.2.2.2.2.2.2.2.1, g.2.2.2.2.2.2.2.2.2.2.2.2.2.2.2.2.2.2.2.2.2.2.2.2.2.2.2.2.2.2.2.2.2.2.2.2.1, g.2.2.2.2.2.2.2.2.2.2.2.2.2.2.2.2.2.2.2.2.2.2.2.2.2.2.2.2.2.2.2.2.2.2.2.2.2.1, g.2.2.2.2.2.2.2.2.2.2.2.2.2.2.2.2.2.2.2.2.2.2.2.2.2.2.2.2.2.2.2.2.2.2.2.2.2.2.1, g.2.2.2.2.2.2.2.2.2.2.2.2.2.2.2.2.2.2.2.2.2.2.2.2.2.2.2.2.2.2.2.2.2.2.2.2.2.2.2.1, g.2.2.2.2.2.2.2.2.2.2.2.2.2.2.2.2.2.2.2.2.2.2.2.2.2.2.2.2.2.2.2.2.2.2.2.2.2.2.2.2.1, g.2.2.2.2.2.2.2.2.2.2.2.2.2.2.2.2.2.2.2.2.2.2.2.2.2.2.2.2.2.2.2.2.2.2.2.2.2.2.2.2.2.1, g.2.2.2.2.2.2.2.2.2.2.2.2.2.2.2.2.2.2.2.2.2.2.2.2.2.2.2.2.2.2.2.2.2.2.2.2.2.2.2.2.2.2.1, y.mp, y.mo, y.mag, y.min, g.2.2.2.2.2.2.2.2.2.2.2.2.2.2.2.2.2.2.2.2.2.2.2.2.2.2.2.2.2.2.2.2.2.2.2.2.2.2.2.2.2.2.2.2.2.2.2.2.2.2.2.2.1, g.2.2.2.2.2.2.2.2.2.2.2.2.2.2.2.2.2.2.2.2.2.2.2.2.2.2.2.2.2.2.2.2.2.2.2.2.2.2.2.2.2.2.2.2.2.2.2.2.2.2.2.2.2.1, g.2.2.2.2.2.2.2.2.2.2.2.2.2.2.2.2.2.2.2.2.2.2.2.2.2.2.2.2.2.2.2.2.2.2.2.2.2.2.2.2.2.2.2.2.2.2.2.2.2.2.2.2.2.2.1, g.2.2.2.2.2.2.2.2.2.2.2.2.2.2.2.2.2.2.2.2.2.2.2.2.2.2.2.2.2.2.2.2.2.2.2.2.2.2.2.2.2.2.2.2.2.2.2.2.2.2.2.2.2.2.2.1, g.2.2.2.2.2.2.2.2.2.2.2.2.2.2.2.2.2.2.2.2.2.2.2.2.2.2.2.2.2.2.2.2.2.2.2.2.2.2.2.2.2.2.2.2.2.2.2.2.2.2.2.2.2.2.2.2.1, g.2.2.2.2.2.2.2.2.2.2.2.2.2.2.2.2.2.2.2.2.2.2.2.2.2.2.2.2.2.2.2.2.2.2.2.2.2.2.2.2.2.2.2.2.2.2.2.2.2.2.2.2.2.2.2.2.2.1, g.2.2.2.2.2.2.2.2.2.2.2.2.2.2.2.2.2.2.2.2.2.2.2.2.2.2.2.2.2.2.2.2.2.2.2.2.2.2.2.2.2.2.2.2.2.2.2.2.2.2.2.2.2.2.2.2.2.2.1, g.2.2.2.2.2.2.2.2.2.2.2.2.2.2.2.2.2.2.2.2.2.2.2.2.2.2.2.2.2.2.2.2.2.2.2.2.2.2.2.2.2.2.2.2.2.2.2.2.2.2.2.2.2.2.2.2.2.2.2.1, g.2.2.2.2.2.2.2.2.2.2.2.2.2.2.2.2.2.2.2.2.2.2.2.2.2.2.2.2.2.2.2.2.2.2.2.2.2.2.2.2.2.2.2.2.2.2.2.2.2.2.2.2.2.2.2.2.2.2.2.2.1, g.2.2.2.2.2.2.2.2.2.2.2.2.2.2.2.2.2.2.2.2.2.2.2.2.2.2.2.2.2.2.2.2.2.2.2.2.2.2.2.2.2.2.2.2.2.2.2.2.2.2.2.2.2.2.2.2.2.2.2.2.2.1)
def XS.lc_written (x : XS) (g : (Int32 × (Nat → Int64))) : XS := (x.c, x.wide, x.high, x.band, x.causal, x.cn, x.coef, x.gn, x.mags, x.kn, x.marks, x.planes, x.passes, x.segs, x.psty, x.first, x.rch, x.gns, x.less, x.fl, x.bk, x.rw, x.pl, x.sty, x.wr, x.rd)
def YS.lc_written (y : YS) (g : (Int32 × (Nat → Int64))) : YS := (y.m, g.1, y.wide, y.high, y.band, y.sty, y.wr, y.rd, y.planes, y.passes, y.segs, y.wri, y.plane, y.raw, y.fl, y.mp, y.mo, y.mag, y.min, y.rch, y.gns, y.mso, y.mbg, y.mln, y.known, y.below, y.latest, y.early, y.again)
def of_written (g : (Int32 × (Nat → Int64))) : Nat → Int64 := g.2
def XS.lc_pass (x : XS) (g : (Int32 × (Nat → Int64))) : XS := (x.c, x.wide, x.high, x.band, x.causal, x.cn, x.coef, x.gn, x.mags, x.kn, x.marks, x.planes, x.passes, x.segs, x.psty, x.first, x.rch, x.gns, x.less, x.fl, x.bk, x.rw, x.pl, x.sty, x.wr, x.rd)
def YS.lc_pass (y : YS) (g : (Int32 × (Nat → Int64))) : YS := (y.m, g.1, y.wide, y.high, y.band, y.sty, y.wr, y.rd, y.planes, y.passes, y.segs, y.wri, y.plane, y.raw, y.fl, y.mp, y.mo, y.mag, y.min, y.rch, y.gns, y.mso, y.mbg, y.mln, y.known, y.below, y.latest, y.early, y.again)
def of_pass (g : (Int32 × (Nat → Int64))) : Nat → Int64 := g.2
def XS.lc_gain (x : XS) (g : (Int32 × (Nat → Int64))) : XS := (x.c, x.wide, x.high, x.band, x.causal, x.cn, x.coef, x.gn, x.mags, x.kn, x.marks, x.planes, x.passes, x.segs, x.psty, x.first, x.rch, x.gns, x.less, x.fl, x.bk, x.rw, x.pl, x.sty, x.wr, x.rd)
def YS.lc_gain (y : YS) (g : (Int32 × (Nat → Int64))) : YS := (y.m, g.1, y.wide, y.high, y.band, y.sty, y.wr, y.rd, y.planes, y.passes, y.segs, y.wri, y.plane, y.raw, y.fl, y.mp, y.mo, y.mag, y.min, y.rch, y.gns, y.mso, y.mbg, y.mln, y.known, y.below, y.latest, y.early, y.again)
def of_gain (g : (Int32 × (Nat → Int64))) : Nat → Int64 := g.2
def XS.lc_at (x : XS) (g : (Int32 × (Nat → Int64))) : XS := (x.c, x.wide, x.high, x.band, x.causal, x.cn, x.coef, x.gn, x.mags, x.kn, x.marks, x.planes, x.passes, x.segs, x.psty, x.first, x.rch, x.gns, x.less, x.fl, x.bk, x.rw, x.pl, x.sty, x.wr, x.rd)
def YS.lc_at (y : YS) (g : (Int32 × (Nat → Int64))) : YS := (y.m, g.1, y.wide, y.high, y.band, y.sty, y.wr, y.rd, y.planes, y.passes, y.segs, y.wri, y.plane, y.raw, y.fl, y.mp, y.mo, y.mag, y.min, y.rch, y.gns, y.mso, y.mbg, y.mln, y.known, y.below, y.latest, y.early, y.again)
def of_at (g : (Int32 × (Nat → Int64))) : Nat → Int64 := g.2
def XS.lc_change (x : XS) (g : ((Nat → Int32) × Int32 × Int32 × Int32 × (Nat → Int32) × (Nat → Int64))) : XS := ((x.c.count, x.c.start, x.c.bn, g.1, x.c.sf, x.c.lf, x.c.low, x.c.size, x.c.room, x.c.free, x.c.place, x.c.cend, x.c.window, x.c.csize, x.c.croom, x.c.rplace, x.c.rend, x.c.cur, x.c.left), x.wide, x.high, x.band, x.causal, x.cn, x.coef, x.gn, x.mags, x.kn, x.marks, x.planes, x.passes, x.segs, x.psty, x.first, x.rch, x.gns, x.less, x.fl, x.bk, x.rw, x.pl, x.sty, x.wr, g.2.1)
def YS.lc_change (y : YS) (g : ((Nat → Int32) × Int32 × Int32 × Int32 × (Nat → Int32) × (Nat → Int64))) : YS := ((y.m.size, y.m.begin, y.m.low, y.m.carried, y.m.span, y.m.room, y.m.place, y.m.limit, y.m.next, y.m.last, y.m.upper, y.m.sf, y.m.lf, g.2.2.2.2.1), g.2.2.1, y.wide, y.high, y.band, y.sty, y.wr, g.2.2.2.1, y.planes, y.passes, y.segs, y.wri, y.plane, y.raw, y.fl, y.mp, y.mo, y.mag, y.min, y.rch, y.gns, y.mso, y.mbg, y.mln, y.known, y.below, y.latest, y.early, y.again)
def of_change (g : ((Nat → Int32) × Int32 × Int32 × Int32 × (Nat → Int32) × (Nat → Int64))) : Nat → Int64 := g.2.2.2.2.2
def XS.lc_read (x : XS) (g : (Int32 × Nat × (Nat → Int32) × (Nat → Int32) × (Nat → Int32) × Int32 × Int32 × Int32 × Int32 × Int32 × Int32 × Int32 × Int32 × Int32 × Int32 × Int32 × Int32 × Int32 × (Nat → Int32) × (Nat → Int32) × Int64 × Int32 × Nat × Int32 × Int32 × Int32 × Int32 × Int32 × Int32 × Int32 × Int32 × Int32 × Int32 × Int32 × Int32 × Int32 × Int32 × Int32 × Int32 × Int32 × Int32 × Int64 × (Nat → Int32) × (Nat → Int32) × (Nat → Int32) × (Nat → Int32) × (Nat → Int32) × (Nat → Int32) × (Nat → Int32) × (Nat → Int32) × (Nat → Int64))) : XS := ((g.1, x.c.start, g.2.1, g.2.2.1, g.2.2.2.1, g.2.2.2.2.1, g.2.2.2.2.2.1, g.2.2.2.2.2.2.1, g.2.2.2.2.2.2.2.1, g.2.2.2.2.2.2.2.2.1, g.2.2.2.2.2.2.2.2.2.1, g.2.2.2.2.2.2.2.2.2.2.1, g.2.2.2.2.2.2.2.2.2.2.2.1, g.2.2.2.2.2.2.2.2.2.2.2.2.1, g.2.2.2.2.2.2.2.2.2.2.2.2.2.1, g.2.2.2.2.2.2.2.2.2.2.2.2.2.2.1, g.2.2.2.2.2.2.2.2.2.2.2.2.2.2.2.1, g.2.2.2.2.2.2.2.2.2.2.2.2.2.2.2.2.1, g.2.2.2.2.2.2.2.2.2.2.2.2.2.2.2.2.2.1), x.wide, x.high, x.band, x.causal, x.cn, x.coef, x.gn, g.2.2.2.2.2.2.2.2.2.2.2.2.2.2.2.2.2.2.1, x.kn, g.2.2.2.2.2.2.2.2.2.2.2.2.2.2.2.2.2.2.2.1, x.planes, x.passes, x.segs, x.psty, x.first, x.rch, x.gns, g.2.2.2.2.2.2.2.2.2.2.2.2.2.2.2.2.2.2.2.2.1, g.2.2.2.2.2.2.2.2.2.2.2.2.2.2.2.2.2.2.2.2.2.1, g.2.2.2.2.2.2.2.2.2.2.2.2.2.2.2.2.2.2.2.2.2.2.1, g.2.2.2.2.2.2.2.2.2.2.2.2.2.2.2.2.2.2.2.2.2.2.2.1, g.2.2.2.2.2.2.2.2.2.2.2.2.2.2.2.2.2.2.2.2.2.2.2.2.1, x.sty, x.wr, g.2.2.2.2.2.2.2.2.2.2.2.2.2.2.2.2.2.2.2.2.2.2.2.2.2.1)
def YS.lc_read (y : YS) (g : (Int32 × Nat × (Nat → Int32) × (Nat → Int32) × (Nat → Int32) × Int32 × Int32 × Int32 × Int32 × Int32 × Int32 × Int32 × Int32 × Int32 × Int32 × Int32 × Int32 × Int32 × (Nat → Int32) × (Nat → Int32) × Int64 × Int32 × Nat × Int32 × Int32 × Int32 × Int32 × Int32 × Int32 × Int32 × Int32 × Int32 × Int32 × Int32 × Int32 × Int32 × Int32 × Int32 × Int32 × Int32 × Int32 × Int64 × (Nat → Int32) × (Nat → Int32) × (Nat → Int32) × (Nat → Int32) × (Nat → Int32) × (Nat → Int32) × (Nat → Int32) × (Nat → Int32) × (Nat → Int64))) : YS := ((g.2.2.2.2.2.2.2.2.2.2.2.2.2.2.2.2.2.2.2.2.2.2.2.2.2.2.2.2.2.2.2.2.1, y.m.begin, g.2.2.2.2.2.2.2.2.2.2.2.2.2.2.2.2.2.2.2.2.2.2.2.2.2.2.2.2.2.2.2.2.2.1, g.2.2.2.2.2.2.2.2.2.2.2.2.2.2.2.2.2.2.2.2.2.2.2.2.2.2.2.2.2.2.2.2.2.2.1, g.2.2.2.2.2.2.2.2.2.2.2.2.2.2.2.2.2.2.2.2.2.2.2.2.2.2.2.2.2.2.2.2.2.2.2.1, g.2.2.2.2.2.2.2.2.2.2.2.2.2.2.2.2.2.2.2.2.2.2.2.2.2.2.2.2.2.2.2.2.2.2.2.2.1, g.2.2.2.2.2.2.2.2.2.2.2.2.2.2.2.2.2.2.2.2.2.2.2.2.2.2.2.2.2.2.2.2.2.2.2.2.2.1, g.2.2.2.2.2.2.2.2.2.2.2.2.2.2.2.2.2.2.2.2.2.2.2.2.2.2.2.2.2.2.2.2.2.2.2.2.2.2.1, g.2.2.2.2.2.2.2.2.2.2.2.2.2.2.2.2.2.2.2.2.2.2.2.2.2.2.2.2.2.2.2.2.2.2.2.2.2.2.2.1, g.2.2.2.2.2.2.2.2.2.2.2.2.2.2.2.2.2.2.2.2.2.2.2.2.2.2.2.2.2.2.2.2.2.2.2.2.2.2.2.2.1, g.2.2.2.2.2.2.2.2.2.2.2.2.2.2.2.2.2.2.2.2.2.2.2.2.2.2.2.2.2.2.2.2.2.2.2.2.2.2.2.2.2.1, g.2.2.2.2.2.2.2.2.2.2.2.2.2.2.2.2.2.2.2.2.2.2.2.2.2.2.2.2.2.2.2.2.2.2.2.2.2.2.2.2.2.2.2.2.2.2.2.1, g.2.2.2.2.2.2.2.2.2.2.2.2.2.2.2.2.2.2.2.2.2.2.2.2.2.2.2.2.2.2.2.2.2.2.2.2.2.2.2.2.2.2.2.2.2.2.2.2.1, g.2.2.2.2.2.2.2.2.2.2.2.2.2.2.2.2.2.2.2.2.2.2.2.2.2.2.2.2.2.2.2.2.2.2.2.2.2.2.2.2.2.2.2.2.2.2.2.2.2.1), g.2.2.2.2.2.2.2.2.2.2.2.2.2.2.2.2.2.2.2.2.2.2.2.2.2.2.1, y.wide, y.high, y.band, y.sty, y.wr, g.2.2.2.2.2.2.2.2.2.2.2.2.2.2.2.2.2.2.2.2.2.2.2.2.2.2.2.1, y.planes, y.passes, y.segs, g.2.2.2.2.2.2.2.2.2.2.2.2.2.2.2.2.2.2.2.2.2.2.2.2.2.2.2.2.1, g.2.2.2.2.2.2.2.2.2.2.2.2.2.2.2.2.2.2.2.2.2.2.2.2.2.2.2.2.2.1, g.2.2.2.2.2.2.2.2.2.2.2.2.2.2.2.2.2.2.2.2.2.2.2.2.2.2.2.2.2.2.1, g.2.2.2.2.2.2.2.2.2.2.2.2.2.2.2.2.2.2.2.2.2.2.2.2.2.2.2.2.2.2.2.1, y.mp, y.mo, y.mag, y.min, y.rch, y.gns, y.mso, y.mbg, y.mln, g.2.2.2.2.2.2.2.2.2.2.2.2.2.2.2.2.2.2.2.2.2.2.2.2.2.2.2.2.2.2.2.2.2.2.2.2.2.2.2.2.2.2.1, g.2.2.2.2.2.2.2.2.2.2.2.2.2.2.2.2.2.2.2.2.2.2.2.2.2.2.2.2.2.2.2.2.2.2.2.2.2.2.2.2.2.2.2.1, g.2.2.2.2.2.2.2.2.2.2.2.2.2.2.2.2.2.2.2.2.2.2.2.2.2.2.2.2.2.2.2.2.2.2.2.2.2.2.2.2.2.2.2.2.1, g.2.2.2.2.2.2.2.2.2.2.2.2.2.2.2.2.2.2.2.2.2.2.2.2.2.2.2.2.2.2.2.2.2.2.2.2.2.2.2.2.2.2.2.2.2.1, g.2.2.2.2.2.2.2.2.2.2.2.2.2.2.2.2.2.2.2.2.2.2.2.2.2.2.2.2.2.2.2.2.2.2.2.2.2.2.2.2.2.2.2.2.2.2.1)
def of_read (g : (Int32 × Nat × (Nat → Int32) × (Nat → Int32) × (Nat → Int32) × Int32 × Int32 × Int32 × Int32 × Int32 × Int32 × Int32 × Int32 × Int32 × Int32 × Int32 × Int32 × Int32 × (Nat → Int32) × (Nat → Int32) × Int64 × Int32 × Nat × Int32 × Int32 × Int32 × Int32 × Int32 × Int32 × Int32 × Int32 × Int32 × Int32 × Int32 × Int32 × Int32 × Int32 × Int32 × Int32 × Int32 × Int32 × Int64 × (Nat → Int32) × (Nat → Int32) × (Nat → Int32) × (Nat → Int32) × (Nat → Int32) × (Nat → Int32) × (Nat → Int32) × (Nat → Int32) × (Nat → Int64))) : Nat → Int64 := g.2.2.2.2.2.2.2.2.2.2.2.2.2.2.2.2.2.2.2.2.2.2.2.2.2.2.2.2.2.2.2.2.2.2.2.2.2.2.2.2.2.2.2.2.2.2.2.2.2.2
def XS.lc_value (x : XS) (g : (Int32 × (Nat → Int64))) : XS := (x.c, x.wide, x.high, x.band, x.causal, x.cn, x.coef, x.gn, x.mags, x.kn, x.marks, x.planes, x.passes, x.segs, x.psty, x.first, x.rch, x.gns, x.less, x.fl, x.bk, x.rw, x.pl, x.sty, x.wr, x.rd)
def YS.lc_value (y : YS) (g : (Int32 × (Nat → Int64))) : YS := (y.m, g.1, y.wide, y.high, y.band, y.sty, y.wr, y.rd, y.planes, y.passes, y.segs, y.wri, y.plane, y.raw, y.fl, y.mp, y.mo, y.mag, y.min, y.rch, y.gns, y.mso, y.mbg, y.mln, y.known, y.below, y.latest, y.early, y.again)
def of_value (g : (Int32 × (Nat → Int64))) : Nat → Int64 := g.2
def XS.lc_known (x : XS) (g : (Int32 × (Nat → Int64))) : XS := (x.c, x.wide, x.high, x.band, x.causal, x.cn, x.coef, x.gn, x.mags, x.kn, x.marks, x.planes, x.passes, x.segs, x.psty, x.first, x.rch, x.gns, x.less, x.fl, x.bk, x.rw, x.pl, x.sty, x.wr, x.rd)
def YS.lc_known (y : YS) (g : (Int32 × (Nat → Int64))) : YS := (y.m, g.1, y.wide, y.high, y.band, y.sty, y.wr, y.rd, y.planes, y.passes, y.segs, y.wri, y.plane, y.raw, y.fl, y.mp, y.mo, y.mag, y.min, y.rch, y.gns, y.mso, y.mbg, y.mln, y.known, y.below, y.latest, y.early, y.again)
def of_known (g : (Int32 × (Nat → Int64))) : Nat → Int64 := g.2
def XS.lc_sum (x : XS) (g : (Int32 × (Nat → Int64))) : XS := (x.c, x.wide, x.high, x.band, x.causal, x.cn, x.coef, x.gn, x.mags, x.kn, x.marks, x.planes, x.passes, x.segs, x.psty, x.first, x.rch, x.gns, x.less, x.fl, x.bk, x.rw, x.pl, x.sty, x.wr, x.rd)
def YS.lc_sum (y : YS) (g : (Int32 × (Nat → Int64))) : YS := (y.m, g.1, y.wide, y.high, y.band, y.sty, y.wr, y.rd, y.planes, y.passes, y.segs, y.wri, y.plane, y.raw, y.fl, y.mp, y.mo, y.mag, y.min, y.rch, y.gns, y.mso, y.mbg, y.mln, y.known, y.below, y.latest, y.early, y.again)
def of_sum (g : (Int32 × (Nat → Int64))) : Nat → Int64 := g.2
theorem tt_needPass (p n w : Int32) : TX_X10_needPass p n w = T_needPass p n w := by
  unfold TX_X10_needPass T_needPass TX_X10_needWritten
  by_cases c : w = (0 : Int32) <;> simp [c]
theorem tt_needByte (p n w : Int32) : TX_X10_needByte p n w = T_needPass p n w := by
  unfold TX_X10_needByte T_needPass TX_X10_needWritten
  by_cases c : w = (0 : Int32) <;> simp [c]
theorem tt_needRead (r : Int32) : TX_X10_needRead r = T_needRead r := rfl
theorem tt_needReadAt (p1 p2 a b r : Int32) : TX_X10_needReadAt p1 p2 a b r = T_needReadAt p1 p2 a b r := by
  unfold TX_X10_needReadAt T_needReadAt TX_X10_needRead
  by_cases c : r = (0 : Int32) <;> simp [c]
theorem ite_self0 (n : Nat) : (if n = 0 then 0 else n) = n := by split <;> omega
theorem tt_begin (p1 p2 p3 p4 : Int32) : TX_X10_begin p1 p2 p3 p4 = T_begin p1 p2 p3 p4 := rfl
theorem tt_set (p1 p2 p3 a b : Int32) : TX_X10_set p1 p2 p3 a b = T_set p1 p2 p3 a b := rfl
theorem tt_fill (p : Int32) : TX_X10_fill p = T_fill p := rfl
theorem tt_written (p w : Int32) : TX_X10_written p w = T_written p w := by
  unfold TX_X10_written T_written TX_X10_needWritten
  by_cases c : w = (0 : Int32) <;> simp [c]
theorem tt_pass (p1 p2 n w : Int32) : TX_X10_pass p1 p2 n w = T_pass p1 p2 n w := by
  unfold TX_X10_pass T_pass
  rw [tt_needPass]
  unfold T_needPass
  by_cases c : w = (0 : Int32)
  · simp [c]
  · by_cases c1 : p1 < (0 : Int32)
    · simp [c, c1]
    · by_cases c2 : p1 < n <;> simp [c, c1, c2]
theorem tt_gain (p n w : Int32) : TX_X10_gain p n w = T_needPass p n w := by unfold TX_X10_gain; rw [ite_self0, tt_needPass]
theorem tt_at (p n w : Int32) : TX_X10_at p n w = T_needPass p n w := by unfold TX_X10_at; rw [ite_self0, tt_needByte]
theorem tt_change (p n w : Int32) : TX_X10_change p n w = T_needPass p n w := by unfold TX_X10_change; rw [ite_self0, tt_needByte]
theorem tt_value (p1 p2 a b r : Int32) : TX_X10_value p1 p2 a b r = T_needReadAt p1 p2 a b r := by unfold TX_X10_value; rw [ite_self0, tt_needReadAt]
theorem tt_known (p1 p2 a b r : Int32) : TX_X10_known p1 p2 a b r = T_needReadAt p1 p2 a b r := by unfold TX_X10_known; rw [ite_self0, tt_needReadAt]
theorem tt_sum (r : Int32) : TX_X10_sum r = T_needRead r := by unfold TX_X10_sum; rw [ite_self0]; rfl
theorem tt_read (p n w : Int32) : TX_X10_read p n w = T_read p n w := by
  unfold TX_X10_read T_read TX_X10_needWritten
  by_cases c : w = (0 : Int32) <;> simp [c]
theorem cmp_self (a : Int64) : lg_cmp a a = 0 := by unfold lg_cmp; simp
/-- the class's answer and the reference's, at a question -/
def Agr (of : Nat → Int64) (r : Int64) (FL : Int32 × (Nat → Int64)) (th : Int32) : Prop := (FL = (0, vp_updL of (0 : Int32).toNatClampNeg r) ∧ th = 0) ∨ ∃ c : Int32, ¬ c = 0 ∧ FL = (c, of) ∧ th = c
theorem Agr.th {of : Nat → Int64} {r : Int64} {FL : Int32 × (Nat → Int64)} {th : Int32} (h : Agr of r FL th) : F_X11_thrown th = FL.1 := by
  rcases h with ⟨e1, e2⟩ | ⟨c, hc, e1, e2⟩ <;> subst e1 <;> subst e2 <;> rfl
theorem Agr.eq {of : Nat → Int64} {r : Int64} {FL : Int32 × (Nat → Int64)} {th : Int32} (h : Agr of r FL th) (h0 : FL.1 = 0) : lg_cmp (FL.2 (0 : Int32).toNatClampNeg) r = 0 := by
  rcases h with ⟨e1, e2⟩ | ⟨c, hc, e1, e2⟩
  · rw [e1]
    show lg_cmp (vp_updL of (0 : Int32).toNatClampNeg r (0 : Int32).toNatClampNeg) r = 0
    rw [pk_uLs]; exact cmp_self r
  · rw [e1] at h0; exact absurd h0 hc
theorem vp0 : vp_in (0 : Int32) 1 := vp_in_nI (n := 0) (by omega) (by omega)

theorem p_written {x : XS} {y : YS} {of : Nat → Int64} {v4 : Int32} {L : Nat} {xs : Nat → Int32} (hin : ∀ d : Int32, 1 ≤ d → d ≤ 4 → vp_in (v4 + d) L) (h : OR x y) : (PC_written v4 L xs x.c.count x.planes x.passes x.segs x.wr y.wr y.planes y.passes y.segs y.m.size 1 of) ∧ OR (x.lc_written (FC_written v4 xs x.c.count x.planes x.passes x.segs x.wr y.wr y.planes y.passes y.segs y.m.size of)) (y.lc_written (FC_written v4 xs x.c.count x.planes x.passes x.segs x.wr y.wr y.planes y.passes y.segs y.m.size of)) ∧ (DC_written v4 xs x.c.count x.planes x.passes x.segs x.wr of) + mu x ≤ mu (x.lc_written (FC_written v4 xs x.c.count x.planes x.passes x.segs x.wr y.wr y.planes y.passes y.segs y.m.size of)) + 6 := by
  obtain ⟨hP, hk⟩ := k_written (xs (v4 + (1 : Int32)).toNatClampNeg) h
  have ht : TX_X10_written (xs (v4 + (1 : Int32)).toNatClampNeg) x.wr = T_written (xs (v4 + (1 : Int32)).toNatClampNeg) x.wr := tt_written _ _
  have hA : Agr of (F_X11_written (xs (v4 + (1 : Int32)).toNatClampNeg) y.wr y.planes y.passes y.segs y.m.size).1.toInt64 (F_L_written (xs (v4 + (1 : Int32)).toNatClampNeg) x.c.count x.planes x.passes x.segs x.wr of) (F_X11_written (xs (v4 + (1 : Int32)).toNatClampNeg) y.wr y.planes y.passes y.segs y.m.size).2 := by
    unfold F_L_written
    rcases hk with ⟨e0, e1, e2⟩ | ⟨e0, a, e2⟩ | ⟨e0, a, e2⟩
    · left
      rw [if_pos (ht.trans e0), e2]
      exact ⟨rfl, rfl⟩
    · right
      refine ⟨1, by decide, ?_, by rw [e2]⟩
      rw [if_neg (by rw [ht, e0]; decide), if_pos (ht.trans e0)]
    · right
      refine ⟨2, by decide, ?_, by rw [e2]⟩
      rw [if_neg (by rw [ht, e0]; decide), if_neg (by rw [ht, e0]; decide), if_pos (ht.trans e0)]
  have hPL : (P_L_written (xs (v4 + (1 : Int32)).toNatClampNeg) x.c.count x.planes x.passes x.segs x.wr 1) := by
    intro hz
    rw [ht] at hz
    rcases hk with ⟨e0, e1, e2⟩ | ⟨e0, a, e2⟩ | ⟨e0, a, e2⟩
    · exact ⟨e1, fun _ _ => vp0⟩
    · rw [e0] at hz; cases hz
    · rw [e0] at hz; cases hz
  have hD : (DC_written v4 xs x.c.count x.planes x.passes x.segs x.wr of) ≤ 6 := by
    unfold DC_written D_L_written DA_L_written
    dsimp only
    split <;> omega
  refine ⟨⟨hin 1 (by decide) (by decide), hPL, fun r2 e2 => fun r4 e4 r5 e5 => ?_⟩, h.thr _, ?_⟩
  · subst e2 e4 e5
    exact ⟨fun _ z => ⟨vp0, fun z2 => z2 (hA.eq z)⟩, fun z => z hA.th⟩
  · show _ + mu x ≤ mu x + 6
    omega
theorem p_pass {x : XS} {y : YS} {of : Nat → Int64} {v4 : Int32} {L : Nat} {xs : Nat → Int32} (hin : ∀ d : Int32, 1 ≤ d → d ≤ 4 → vp_in (v4 + d) L) (h : OR x y) : (PC_pass v4 L xs x.planes x.passes x.psty 91 x.rch x.wr y.sty y.wr y.planes y.passes 96 y.rch 1 of) ∧ OR (x.lc_pass (FC_pass v4 xs x.planes x.passes x.psty x.rch x.wr y.sty y.wr y.planes y.passes y.rch of)) (y.lc_pass (FC_pass v4 xs x.planes x.passes x.psty x.rch x.wr y.sty y.wr y.planes y.passes y.rch of)) ∧ (DC_pass v4 xs x.planes x.passes x.psty x.rch x.wr of) + mu x ≤ mu (x.lc_pass (FC_pass v4 xs x.planes x.passes x.psty x.rch x.wr y.sty y.wr y.planes y.passes y.rch of)) + 6 := by
  obtain ⟨hP, hk⟩ := k_pass (xs (v4 + (1 : Int32)).toNatClampNeg) (xs (v4 + (2 : Int32)).toNatClampNeg) h
  have ht : TX_X10_pass (xs (v4 + (1 : Int32)).toNatClampNeg) (xs (v4 + (2 : Int32)).toNatClampNeg) x.passes x.wr = T_pass (xs (v4 + (1 : Int32)).toNatClampNeg) (xs (v4 + (2 : Int32)).toNatClampNeg) x.passes x.wr := tt_pass _ _ _ _
  have hA : Agr of (F_X11_pass (xs (v4 + (1 : Int32)).toNatClampNeg) (xs (v4 + (2 : Int32)).toNatClampNeg) y.sty y.wr y.planes y.passes y.rch).1.toInt64 (F_L_pass (xs (v4 + (1 : Int32)).toNatClampNeg) (xs (v4 + (2 : Int32)).toNatClampNeg) x.planes x.passes x.psty x.rch x.wr of) (F_X11_pass (xs (v4 + (1 : Int32)).toNatClampNeg) (xs (v4 + (2 : Int32)).toNatClampNeg) y.sty y.wr y.planes y.passes y.rch).2 := by
    unfold F_L_pass
    rcases hk with ⟨e0, e1, e2⟩ | ⟨e0, a, e2⟩ | ⟨e0, a, e2⟩ | ⟨e0, a, e2⟩
    · left
      rw [if_pos (ht.trans e0), e2]
      exact ⟨rfl, rfl⟩
    · right
      refine ⟨1, by decide, ?_, by rw [e2]⟩
      rw [if_neg (by rw [ht, e0]; decide), if_pos (ht.trans e0)]
    · right
      refine ⟨2, by decide, ?_, by rw [e2]⟩
      rw [if_neg (by rw [ht, e0]; decide), if_neg (by rw [ht, e0]; decide), if_pos (ht.trans e0)]
    · right
      refine ⟨3, by decide, ?_, by rw [e2]⟩
      rw [if_neg (by rw [ht, e0]; decide), if_neg (by rw [ht, e0]; decide), if_neg (by rw [ht, e0]; decide), if_pos (ht.trans e0)]
  have hPL : (P_L_pass (xs (v4 + (1 : Int32)).toNatClampNeg) (xs (v4 + (2 : Int32)).toNatClampNeg) x.planes x.passes x.psty 91 x.rch x.wr 1) := by
    intro hz
    rw [ht] at hz
    rcases hk with ⟨e0, e1, e2⟩ | ⟨e0, a, e2⟩ | ⟨e0, a, e2⟩ | ⟨e0, a, e2⟩
    · exact ⟨e1, fun _ _ => vp0⟩
    · rw [e0] at hz; cases hz
    · rw [e0] at hz; cases hz
    · rw [e0] at hz; cases hz
  have hD : (DC_pass v4 xs x.planes x.passes x.psty x.rch x.wr of) ≤ 6 := by
    unfold DC_pass D_L_pass DA_L_pass
    dsimp only
    split <;> omega
  refine ⟨⟨hin 1 (by decide) (by decide), hin 2 (by decide) (by decide), hPL, fun r2 e2 => ⟨hP, fun r4 e4 r5 e5 => ?_⟩⟩, h.thr _, ?_⟩
  · subst e2 e4 e5
    exact ⟨fun _ z => ⟨vp0, fun z2 => z2 (hA.eq z)⟩, fun z => z hA.th⟩
  · show _ + mu x ≤ mu x + 6
    omega
theorem p_gain {x : XS} {y : YS} {of : Nat → Int64} {v4 : Int32} {L : Nat} {xs : Nat → Int32} (hin : ∀ d : Int32, 1 ≤ d → d ≤ 4 → vp_in (v4 + d) L) (h : OR x y) : (PC_gain v4 L xs x.passes 91 x.gns x.wr y.wr y.passes 96 y.gns 1 of) ∧ OR (x.lc_gain (FC_gain v4 xs x.passes x.gns x.wr y.wr y.passes y.gns of)) (y.lc_gain (FC_gain v4 xs x.passes x.gns x.wr y.wr y.passes y.gns of)) ∧ (DC_gain v4 xs x.passes x.gns x.wr of) + mu x ≤ mu (x.lc_gain (FC_gain v4 xs x.passes x.gns x.wr y.wr y.passes y.gns of)) + 6 := by
  obtain ⟨hP, hk⟩ := k_gain (xs (v4 + (1 : Int32)).toNatClampNeg) h
  have ht : TX_X10_gain (xs (v4 + (1 : Int32)).toNatClampNeg) x.passes x.wr = T_needPass (xs (v4 + (1 : Int32)).toNatClampNeg) x.passes x.wr := tt_gain _ _ _
  have hA : Agr of (F_X11_gain (xs (v4 + (1 : Int32)).toNatClampNeg) y.wr y.passes y.gns).1 (F_L_gain (xs (v4 + (1 : Int32)).toNatClampNeg) x.passes x.gns x.wr of) (F_X11_gain (xs (v4 + (1 : Int32)).toNatClampNeg) y.wr y.passes y.gns).2 := by
    unfold F_L_gain
    rcases hk with ⟨e0, e1, e2⟩ | ⟨e0, a, e2⟩ | ⟨e0, a, e2⟩
    · left
      rw [if_pos (ht.trans e0), e2]
      exact ⟨rfl, rfl⟩
    · right
      refine ⟨1, by decide, ?_, by rw [e2]⟩
      rw [if_neg (by rw [ht, e0]; decide), if_pos (ht.trans e0)]
    · right
      refine ⟨2, by decide, ?_, by rw [e2]⟩
      rw [if_neg (by rw [ht, e0]; decide), if_neg (by rw [ht, e0]; decide), if_pos (ht.trans e0)]
  have hPL : (P_L_gain (xs (v4 + (1 : Int32)).toNatClampNeg) x.passes 91 x.gns x.wr 1) := by
    intro hz
    rw [ht] at hz
    rcases hk with ⟨e0, e1, e2⟩ | ⟨e0, a, e2⟩ | ⟨e0, a, e2⟩
    · exact ⟨e1, fun _ _ => vp0⟩
    · rw [e0] at hz; cases hz
    · rw [e0] at hz; cases hz
  have hD : (DC_gain v4 xs x.passes x.gns x.wr of) ≤ 6 := by
    unfold DC_gain D_L_gain DA_L_gain
    dsimp only
    split <;> omega
  refine ⟨⟨hin 1 (by decide) (by decide), hPL, fun r2 e2 => ⟨hP, fun r4 e4 r5 e5 => ?_⟩⟩, h.thr _, ?_⟩
  · subst e2 e4 e5
    exact ⟨fun _ z => ⟨vp0, fun z2 => z2 (hA.eq z)⟩, fun z => z hA.th⟩
  · show _ + mu x ≤ mu x + 6
    omega
theorem p_at {x : XS} {y : YS} {of : Nat → Int64} {v4 : Int32} {L : Nat} {xs : Nat → Int32} (hin : ∀ d : Int32, 1 ≤ d → d ≤ 4 → vp_in (v4 + d) L) (h : OR x y) : (PC_at v4 L xs x.c.count x.c.bn x.c.bf x.wr y.wr y.m.size 65536 y.m.bf 1 of) ∧ OR (x.lc_at (FC_at v4 xs x.c.count x.c.bf x.wr y.wr y.m.size y.m.bf of)) (y.lc_at (FC_at v4 xs x.c.count x.c.bf x.wr y.wr y.m.size y.m.bf of)) ∧ (DC_at v4 xs x.c.count x.c.bf x.wr of) + mu x ≤ mu (x.lc_at (FC_at v4 xs x.c.count x.c.bf x.wr y.wr y.m.size y.m.bf of)) + 6 := by
  obtain ⟨hP, hk⟩ := k_at (xs (v4 + (1 : Int32)).toNatClampNeg) h
  have ht : TX_X10_at (xs (v4 + (1 : Int32)).toNatClampNeg) x.c.count x.wr = T_needPass (xs (v4 + (1 : Int32)).toNatClampNeg) x.c.count x.wr := tt_at _ _ _
  have hA : Agr of (F_X11_at (xs (v4 + (1 : Int32)).toNatClampNeg) y.wr y.m.size y.m.bf).1.toInt64 (F_L_at (xs (v4 + (1 : Int32)).toNatClampNeg) x.c.count x.c.bf x.wr of) (F_X11_at (xs (v4 + (1 : Int32)).toNatClampNeg) y.wr y.m.size y.m.bf).2 := by
    unfold F_L_at
    rcases hk with ⟨e0, e1, e2⟩ | ⟨e0, a, e2⟩ | ⟨e0, a, e2⟩
    · left
      rw [if_pos (ht.trans e0), e2]
      exact ⟨rfl, rfl⟩
    · right
      refine ⟨1, by decide, ?_, by rw [e2]⟩
      rw [if_neg (by rw [ht, e0]; decide), if_pos (ht.trans e0)]
    · right
      refine ⟨2, by decide, ?_, by rw [e2]⟩
      rw [if_neg (by rw [ht, e0]; decide), if_neg (by rw [ht, e0]; decide), if_pos (ht.trans e0)]
  have hPL : (P_L_at (xs (v4 + (1 : Int32)).toNatClampNeg) x.c.count x.c.bn x.c.bf x.wr 1) := by
    intro hz
    rw [ht] at hz
    rcases hk with ⟨e0, e1, e2⟩ | ⟨e0, a, e2⟩ | ⟨e0, a, e2⟩
    · exact ⟨e1, fun _ _ => vp0⟩
    · rw [e0] at hz; cases hz
    · rw [e0] at hz; cases hz
  have hD : (DC_at v4 xs x.c.count x.c.bf x.wr of) ≤ 6 := by
    unfold DC_at D_L_at DA_L_at
    dsimp only
    split <;> omega
  refine ⟨⟨hin 1 (by decide) (by decide), hPL, fun r2 e2 => ⟨hP, fun r4 e4 r5 e5 => ?_⟩⟩, h.thr _, ?_⟩
  · subst e2 e4 e5
    exact ⟨fun _ z => ⟨vp0, fun z2 => z2 (hA.eq z)⟩, fun z => z hA.th⟩
  · show _ + mu x ≤ mu x + 6
    omega
theorem p_value {x : XS} {y : YS} {of : Nat → Int64} {v4 : Int32} {L : Nat} {xs : Nat → Int32} (hin : ∀ d : Int32, 1 ≤ d → d ≤ 4 → vp_in (v4 + d) L) (h : OR x y) : (PC_value v4 L xs x.wide x.high x.gn x.mags x.kn x.marks x.rd y.wide y.high y.rd 4096 y.known 4096 y.below 4096 y.latest 1 of) ∧ OR (x.lc_value (FC_value v4 xs x.wide x.high x.mags x.marks x.rd y.wide y.high y.rd y.known y.below y.latest of)) (y.lc_value (FC_value v4 xs x.wide x.high x.mags x.marks x.rd y.wide y.high y.rd y.known y.below y.latest of)) ∧ (DC_value v4 xs x.wide x.high x.mags x.marks x.rd of) + mu x ≤ mu (x.lc_value (FC_value v4 xs x.wide x.high x.mags x.marks x.rd y.wide y.high y.rd y.known y.below y.latest of)) + 6 := by
  obtain ⟨hP, hk⟩ := k_value (xs (v4 + (1 : Int32)).toNatClampNeg) (xs (v4 + (2 : Int32)).toNatClampNeg) h
  have ht : TX_X10_value (xs (v4 + (1 : Int32)).toNatClampNeg) (xs (v4 + (2 : Int32)).toNatClampNeg) x.wide x.high x.rd = T_needReadAt (xs (v4 + (1 : Int32)).toNatClampNeg) (xs (v4 + (2 : Int32)).toNatClampNeg) x.wide x.high x.rd := tt_value _ _ _ _ _
  have hA : Agr of (F_X11_value (xs (v4 + (1 : Int32)).toNatClampNeg) (xs (v4 + (2 : Int32)).toNatClampNeg) y.wide y.high y.rd y.known y.below y.latest).1.toInt64 (F_L_value (xs (v4 + (1 : Int32)).toNatClampNeg) (xs (v4 + (2 : Int32)).toNatClampNeg) x.wide x.high x.mags x.marks x.rd of) (F_X11_value (xs (v4 + (1 : Int32)).toNatClampNeg) (xs (v4 + (2 : Int32)).toNatClampNeg) y.wide y.high y.rd y.known y.below y.latest).2 := by
    unfold F_L_value
    rcases hk with ⟨e0, e1, e2⟩ | ⟨e0, a, e2⟩ | ⟨e0, a, e2⟩
    · left
      rw [if_pos (ht.trans e0), e2]
      exact ⟨rfl, rfl⟩
    · right
      refine ⟨1, by decide, ?_, by rw [e2]⟩
      rw [if_neg (by rw [ht, e0]; decide), if_neg (by rw [ht, e0]; decide), if_pos (ht.trans e0)]
    · right
      refine ⟨2, by decide, ?_, by rw [e2]⟩
      rw [if_neg (by rw [ht, e0]; decide), if_pos (ht.trans e0)]
  have hPL : (P_L_value (xs (v4 + (1 : Int32)).toNatClampNeg) (xs (v4 + (2 : Int32)).toNatClampNeg) x.wide x.high x.gn x.mags x.kn x.marks x.rd 1) := by
    intro hz
    rw [ht] at hz
    rcases hk with ⟨e0, e1, e2⟩ | ⟨e0, a, e2⟩ | ⟨e0, a, e2⟩
    · exact ⟨e1, fun _ _ => vp0⟩
    · rw [e0] at hz; cases hz
    · rw [e0] at hz; cases hz
  have hD : (DC_value v4 xs x.wide x.high x.mags x.marks x.rd of) ≤ 6 := by
    unfold DC_value D_L_value DA_L_value
    dsimp only
    split <;> omega
  refine ⟨⟨hin 1 (by decide) (by decide), hin 2 (by decide) (by decide), hPL, fun r2 e2 => ⟨hP, fun r4 e4 r5 e5 => ?_⟩⟩, h.thr _, ?_⟩
  · subst e2 e4 e5
    exact ⟨fun _ z => ⟨vp0, fun z2 => z2 (hA.eq z)⟩, fun z => z hA.th⟩
  · show _ + mu x ≤ mu x + 6
    omega
theorem p_known {x : XS} {y : YS} {of : Nat → Int64} {v4 : Int32} {L : Nat} {xs : Nat → Int32} (hin : ∀ d : Int32, 1 ≤ d → d ≤ 4 → vp_in (v4 + d) L) (h : OR x y) : (PC_known v4 L xs x.wide x.high x.gn x.mags x.rd y.wide y.high y.rd 4096 y.known 1 of) ∧ OR (x.lc_known (FC_known v4 xs x.wide x.high x.mags x.rd y.wide y.high y.rd y.known of)) (y.lc_known (FC_known v4 xs x.wide x.high x.mags x.rd y.wide y.high y.rd y.known of)) ∧ (DC_known v4 xs x.wide x.high x.mags x.rd of) + mu x ≤ mu (x.lc_known (FC_known v4 xs x.wide x.high x.mags x.rd y.wide y.high y.rd y.known of)) + 6 := by
  obtain ⟨hP, hk⟩ := k_known (xs (v4 + (1 : Int32)).toNatClampNeg) (xs (v4 + (2 : Int32)).toNatClampNeg) h
  have ht : TX_X10_known (xs (v4 + (1 : Int32)).toNatClampNeg) (xs (v4 + (2 : Int32)).toNatClampNeg) x.wide x.high x.rd = T_needReadAt (xs (v4 + (1 : Int32)).toNatClampNeg) (xs (v4 + (2 : Int32)).toNatClampNeg) x.wide x.high x.rd := tt_known _ _ _ _ _
  have hA : Agr of (F_X11_known (xs (v4 + (1 : Int32)).toNatClampNeg) (xs (v4 + (2 : Int32)).toNatClampNeg) y.wide y.high y.rd y.known).1.toInt64 (F_L_known (xs (v4 + (1 : Int32)).toNatClampNeg) (xs (v4 + (2 : Int32)).toNatClampNeg) x.wide x.high x.mags x.rd of) (F_X11_known (xs (v4 + (1 : Int32)).toNatClampNeg) (xs (v4 + (2 : Int32)).toNatClampNeg) y.wide y.high y.rd y.known).2 := by
    unfold F_L_known
    rcases hk with ⟨e0, e1, e2⟩ | ⟨e0, a, e2⟩ | ⟨e0, a, e2⟩
    · left
      rw [if_pos (ht.trans e0), e2]
      exact ⟨rfl, rfl⟩
    · right
      refine ⟨1, by decide, ?_, by rw [e2]⟩
      rw [if_neg (by rw [ht, e0]; decide), if_neg (by rw [ht, e0]; decide), if_pos (ht.trans e0)]
    · right
      refine ⟨2, by decide, ?_, by rw [e2]⟩
      rw [if_neg (by rw [ht, e0]; decide), if_pos (ht.trans e0)]
  have hPL : (P_L_known (xs (v4 + (1 : Int32)).toNatClampNeg) (xs (v4 + (2 : Int32)).toNatClampNeg) x.wide x.high x.gn x.mags x.rd 1) := by
    intro hz
    rw [ht] at hz
    rcases hk with ⟨e0, e1, e2⟩ | ⟨e0, a, e2⟩ | ⟨e0, a, e2⟩
    · exact ⟨e1, fun _ _ => vp0⟩
    · rw [e0] at hz; cases hz
    · rw [e0] at hz; cases hz
  have hD : (DC_known v4 xs x.wide x.high x.mags x.rd of) ≤ 6 := by
    unfold DC_known D_L_known DA_L_known
    dsimp only
    split <;> omega
  refine ⟨⟨hin 1 (by decide) (by decide), hin 2 (by decide) (by decide), hPL, fun r2 e2 => ⟨hP, fun r4 e4 r5 e5 => ?_⟩⟩, h.thr _, ?_⟩
  · subst e2 e4 e5
    exact ⟨fun _ z => ⟨vp0, fun z2 => z2 (hA.eq z)⟩, fun z => z hA.th⟩
  · show _ + mu x ≤ mu x + 6
    omega
theorem p_sum {x : XS} {y : YS} {of : Nat → Int64} {v4 : Int32} {L : Nat} {xs : Nat → Int32} (hin : ∀ d : Int32, 1 ≤ d → d ≤ 4 → vp_in (v4 + d) L) (h : OR x y) : (PC_sum x.wide x.high x.gn x.mags x.kn x.marks x.rd y.wide y.high y.rd 4096 y.known 4096 y.below 4096 y.latest 1 of) ∧ OR (x.lc_sum (FC_sum x.wide x.high x.mags x.marks x.rd y.wide y.high y.rd y.known y.below y.latest of)) (y.lc_sum (FC_sum x.wide x.high x.mags x.marks x.rd y.wide y.high y.rd y.known y.below y.latest of)) ∧ (DC_sum x.wide x.high x.mags x.marks x.rd of) + mu x ≤ mu (x.lc_sum (FC_sum x.wide x.high x.mags x.marks x.rd y.wide y.high y.rd y.known y.below y.latest of)) + 6 := by
  obtain ⟨hP, hk⟩ := k_sum h
  have ht : TX_X10_sum x.rd = T_needRead x.rd := tt_sum _
  have hA : Agr of (F_X11_sum_ y.wide y.high y.rd y.known y.below y.latest).1.toInt64 (F_L_sum x.wide x.high x.mags x.marks x.rd of) (F_X11_sum_ y.wide y.high y.rd y.known y.below y.latest).2 := by
    unfold F_L_sum
    rcases hk with ⟨e0, e1, e2⟩ | ⟨e0, a, e2⟩
    · left
      rw [if_pos (ht.trans e0), e2]
      exact ⟨rfl, rfl⟩
    · right
      refine ⟨1, by decide, ?_, by rw [e2]⟩
      rw [if_neg (by rw [ht, e0]; decide), if_pos (ht.trans e0)]
  have hPL : (P_L_sum x.wide x.high x.gn x.mags x.kn x.marks x.rd 1) := by
    intro hz
    rw [ht] at hz
    rcases hk with ⟨e0, e1, e2⟩ | ⟨e0, a, e2⟩
    · exact ⟨e1, fun _ _ => vp0⟩
    · rw [e0] at hz; cases hz
  have hD : (DC_sum x.wide x.high x.mags x.marks x.rd of) ≤ 6 := by
    unfold DC_sum D_L_sum DA_L_sum
    dsimp only
    split <;> omega
  refine ⟨⟨hPL, fun r2 e2 => ⟨hP, fun r4 e4 r5 e5 => ?_⟩⟩, h.thr _, ?_⟩
  · subst e2 e4 e5
    exact ⟨fun _ z => ⟨vp0, fun z2 => z2 (hA.eq z)⟩, fun z => z hA.th⟩
  · show _ + mu x ≤ mu x + 6
    omega
