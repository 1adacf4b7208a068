/-- the reference's own: texts and their sizes; what names stand for; the reader; what was laid aside; the yard's; the image; sheets -/
def YQ : Type := F32 × F32 × Int32 × Int32 × Int32 × Int32 × Int32 × Int32 × Int32 × Int32 × Int32 × Int32 × Int32 × Int64 × Int32 × Int32 × Int32 × F32 × F32 × Int32 × Int32 × Int32 × F32 × F32 × F32 × Int32 × Int32 × Int32 × Int32 × Int32 × F32 × F32 × F32 × F32 × Int32
def YQ.tx (h : YQ) : F32 := h.1
def YQ.ts (h : YQ) : F32 := h.2.1
def YQ.o1 (h : YQ) : Int32 := h.2.2.1
def YQ.o2 (h : YQ) : Int32 := h.2.2.2.1
def YQ.o3 (h : YQ) : Int32 := h.2.2.2.2.1
def YQ.o4 (h : YQ) : Int32 := h.2.2.2.2.2.1
def YQ.o5 (h : YQ) : Int32 := h.2.2.2.2.2.2.1
def YQ.o6 (h : YQ) : Int32 := h.2.2.2.2.2.2.2.1
def YQ.p1 (h : YQ) : Int32 := h.2.2.2.2.2.2.2.2.1
def YQ.p2 (h : YQ) : Int32 := h.2.2.2.2.2.2.2.2.2.1
def YQ.p3 (h : YQ) : Int32 := h.2.2.2.2.2.2.2.2.2.2.1
def YQ.p4 (h : YQ) : Int32 := h.2.2.2.2.2.2.2.2.2.2.2.1
def YQ.p5 (h : YQ) : Int32 := h.2.2.2.2.2.2.2.2.2.2.2.2.1
def YQ.pw (h : YQ) : Int64 := h.2.2.2.2.2.2.2.2.2.2.2.2.2.1
def YQ.p6 (h : YQ) : Int32 := h.2.2.2.2.2.2.2.2.2.2.2.2.2.2.1
def YQ.p7 (h : YQ) : Int32 := h.2.2.2.2.2.2.2.2.2.2.2.2.2.2.2.1
def YQ.p8 (h : YQ) : Int32 := h.2.2.2.2.2.2.2.2.2.2.2.2.2.2.2.2.1
def YQ.wz (h : YQ) : F32 := h.2.2.2.2.2.2.2.2.2.2.2.2.2.2.2.2.2.1
def YQ.ba (h : YQ) : F32 := h.2.2.2.2.2.2.2.2.2.2.2.2.2.2.2.2.2.2.1
def YQ.b1 (h : YQ) : Int32 := h.2.2.2.2.2.2.2.2.2.2.2.2.2.2.2.2.2.2.2.1
def YQ.b2 (h : YQ) : Int32 := h.2.2.2.2.2.2.2.2.2.2.2.2.2.2.2.2.2.2.2.2.1
def YQ.b3 (h : YQ) : Int32 := h.2.2.2.2.2.2.2.2.2.2.2.2.2.2.2.2.2.2.2.2.2.1
def YQ.rk (h : YQ) : F32 := h.2.2.2.2.2.2.2.2.2.2.2.2.2.2.2.2.2.2.2.2.2.2.1
def YQ.bk (h : YQ) : F32 := h.2.2.2.2.2.2.2.2.2.2.2.2.2.2.2.2.2.2.2.2.2.2.2.1
def YQ.sk (h : YQ) : F32 := h.2.2.2.2.2.2.2.2.2.2.2.2.2.2.2.2.2.2.2.2.2.2.2.2.1
def YQ.k1 (h : YQ) : Int32 := h.2.2.2.2.2.2.2.2.2.2.2.2.2.2.2.2.2.2.2.2.2.2.2.2.2.1
def YQ.k2 (h : YQ) : Int32 := h.2.2.2.2.2.2.2.2.2.2.2.2.2.2.2.2.2.2.2.2.2.2.2.2.2.2.1
def YQ.k3 (h : YQ) : Int32 := h.2.2.2.2.2.2.2.2.2.2.2.2.2.2.2.2.2.2.2.2.2.2.2.2.2.2.2.1
def YQ.k4 (h : YQ) : Int32 := h.2.2.2.2.2.2.2.2.2.2.2.2.2.2.2.2.2.2.2.2.2.2.2.2.2.2.2.2.1
def YQ.k5 (h : YQ) : Int32 := h.2.2.2.2.2.2.2.2.2.2.2.2.2.2.2.2.2.2.2.2.2.2.2.2.2.2.2.2.2.1
def YQ.it0 (h : YQ) : F32 := h.2.2.2.2.2.2.2.2.2.2.2.2.2.2.2.2.2.2.2.2.2.2.2.2.2.2.2.2.2.2.1
def YQ.so (h : YQ) : F32 := h.2.2.2.2.2.2.2.2.2.2.2.2.2.2.2.2.2.2.2.2.2.2.2.2.2.2.2.2.2.2.2.1
def YQ.sz (h : YQ) : F32 := h.2.2.2.2.2.2.2.2.2.2.2.2.2.2.2.2.2.2.2.2.2.2.2.2.2.2.2.2.2.2.2.2.1
def YQ.it (h : YQ) : F32 := h.2.2.2.2.2.2.2.2.2.2.2.2.2.2.2.2.2.2.2.2.2.2.2.2.2.2.2.2.2.2.2.2.2.1
def YQ.th (h : YQ) : Int32 := h.2.2.2.2.2.2.2.2.2.2.2.2.2.2.2.2.2.2.2.2.2.2.2.2.2.2.2.2.2.2.2.2.2.2
def YQ.set_tx (h : YQ) (v : F32) : YQ := (v, h.ts, h.o1, h.o2, h.o3, h.o4, h.o5, h.o6, h.p1, h.p2, h.p3, h.p4, h.p5, h.pw, h.p6, h.p7, h.p8, h.wz, h.ba, h.b1, h.b2, h.b3, h.rk, h.bk, h.sk, h.k1, h.k2, h.k3, h.k4, h.k5, h.it0, h.so, h.sz, h.it, h.th)
def YQ.set_ts (h : YQ) (v : F32) : YQ := (h.tx, v, h.o1, h.o2, h.o3, h.o4, h.o5, h.o6, h.p1, h.p2, h.p3, h.p4, h.p5, h.pw, h.p6, h.p7, h.p8, h.wz, h.ba, h.b1, h.b2, h.b3, h.rk, h.bk, h.sk, h.k1, h.k2, h.k3, h.k4, h.k5, h.it0, h.so, h.sz, h.it, h.th)
def YQ.set_o1 (h : YQ) (v : Int32) : YQ := (h.tx, h.ts, v, h.o2, h.o3, h.o4, h.o5, h.o6, h.p1, h.p2, h.p3, h.p4, h.p5, h.pw, h.p6, h.p7, h.p8, h.wz, h.ba, h.b1, h.b2, h.b3, h.rk, h.bk, h.sk, h.k1, h.k2, h.k3, h.k4, h.k5, h.it0, h.so, h.sz, h.it, h.th)
def YQ.set_o2 (h : YQ) (v : Int32) : YQ := (h.tx, h.ts, h.o1, v, h.o3, h.o4, h.o5, h.o6, h.p1, h.p2, h.p3, h.p4, h.p5, h.pw, h.p6, h.p7, h.p8, h.wz, h.ba, h.b1, h.b2, h.b3, h.rk, h.bk, h.sk, h.k1, h.k2, h.k3, h.k4, h.k5, h.it0, h.so, h.sz, h.it, h.th)
def YQ.set_o3 (h : YQ) (v : Int32) : YQ := (h.tx, h.ts, h.o1, h.o2, v, h.o4, h.o5, h.o6, h.p1, h.p2, h.p3, h.p4, h.p5, h.pw, h.p6, h.p7, h.p8, h.wz, h.ba, h.b1, h.b2, h.b3, h.rk, h.bk, h.sk, h.k1, h.k2, h.k3, h.k4, h.k5, h.it0, h.so, h.sz, h.it, h.th)
def YQ.set_o4 (h : YQ) (v : Int32) : YQ := (h.tx, h.ts, h.o1, h.o2, h.o3, v, h.o5, h.o6, h.p1, h.p2, h.p3, h.p4, h.p5, h.pw, h.p6, h.p7, h.p8, h.wz, h.ba, h.b1, h.b2, h.b3, h.rk, h.bk, h.sk, h.k1, h.k2, h.k3, h.k4, h.k5, h.it0, h.so, h.sz, h.it, h.th)
def YQ.set_o5 (h : YQ) (v : Int32) : YQ := (h.tx, h.ts, h.o1, h.o2, h.o3, h.o4, v, h.o6, h.p1, h.p2, h.p3, h.p4, h.p5, h.pw, h.p6, h.p7, h.p8, h.wz, h.ba, h.b1, h.b2, h.b3, h.rk, h.bk, h.sk, h.k1, h.k2, h.k3, h.k4, h.k5, h.it0, h.so, h.sz, h.it, h.th)
def YQ.set_o6 (h : YQ) (v : Int32) : YQ := (h.tx, h.ts, h.o1, h.o2, h.o3, h.o4, h.o5, v, h.p1, h.p2, h.p3, h.p4, h.p5, h.pw, h.p6, h.p7, h.p8, h.wz, h.ba, h.b1, h.b2, h.b3, h.rk, h.bk, h.sk, h.k1, h.k2, h.k3, h.k4, h.k5, h.it0, h.so, h.sz, h.it, h.th)
def YQ.set_p1 (h : YQ) (v : Int32) : YQ := (h.tx, h.ts, h.o1, h.o2, h.o3, h.o4, h.o5, h.o6, v, h.p2, h.p3, h.p4, h.p5, h.pw, h.p6, h.p7, h.p8, h.wz, h.ba, h.b1, h.b2, h.b3, h.rk, h.bk, h.sk, h.k1, h.k2, h.k3, h.k4, h.k5, h.it0, h.so, h.sz, h.it, h.th)
def YQ.set_p2 (h : YQ) (v : Int32) : YQ := (h.tx, h.ts, h.o1, h.o2, h.o3, h.o4, h.o5, h.o6, h.p1, v, h.p3, h.p4, h.p5, h.pw, h.p6, h.p7, h.p8, h.wz, h.ba, h.b1, h.b2, h.b3, h.rk, h.bk, h.sk, h.k1, h.k2, h.k3, h.k4, h.k5, h.it0, h.so, h.sz, h.it, h.th)
def YQ.set_p3 (h : YQ) (v : Int32) : YQ := (h.tx, h.ts, h.o1, h.o2, h.o3, h.o4, h.o5, h.o6, h.p1, h.p2, v, h.p4, h.p5, h.pw, h.p6, h.p7, h.p8, h.wz, h.ba, h.b1, h.b2, h.b3, h.rk, h.bk, h.sk, h.k1, h.k2, h.k3, h.k4, h.k5, h.it0, h.so, h.sz, h.it, h.th)
def YQ.set_p4 (h : YQ) (v : Int32) : YQ := (h.tx, h.ts, h.o1, h.o2, h.o3, h.o4, h.o5, h.o6, h.p1, h.p2, h.p3, v, h.p5, h.pw, h.p6, h.p7, h.p8, h.wz, h.ba, h.b1, h.b2, h.b3, h.rk, h.bk, h.sk, h.k1, h.k2, h.k3, h.k4, h.k5, h.it0, h.so, h.sz, h.it, h.th)
def YQ.set_p5 (h : YQ) (v : Int32) : YQ := (h.tx, h.ts, h.o1, h.o2, h.o3, h.o4, h.o5, h.o6, h.p1, h.p2, h.p3, h.p4, v, h.pw, h.p6, h.p7, h.p8, h.wz, h.ba, h.b1, h.b2, h.b3, h.rk, h.bk, h.sk, h.k1, h.k2, h.k3, h.k4, h.k5, h.it0, h.so, h.sz, h.it, h.th)
def YQ.set_pw (h : YQ) (v : Int64) : YQ := (h.tx, h.ts, h.o1, h.o2, h.o3, h.o4, h.o5, h.o6, h.p1, h.p2, h.p3, h.p4, h.p5, v, h.p6, h.p7, h.p8, h.wz, h.ba, h.b1, h.b2, h.b3, h.rk, h.bk, h.sk, h.k1, h.k2, h.k3, h.k4, h.k5, h.it0, h.so, h.sz, h.it, h.th)
def YQ.set_p6 (h : YQ) (v : Int32) : YQ := (h.tx, h.ts, h.o1, h.o2, h.o3, h.o4, h.o5, h.o6, h.p1, h.p2, h.p3, h.p4, h.p5, h.pw, v, h.p7, h.p8, h.wz, h.ba, h.b1, h.b2, h.b3, h.rk, h.bk, h.sk, h.k1, h.k2, h.k3, h.k4, h.k5, h.it0, h.so, h.sz, h.it, h.th)
def YQ.set_p7 (h : YQ) (v : Int32) : YQ := (h.tx, h.ts, h.o1, h.o2, h.o3, h.o4, h.o5, h.o6, h.p1, h.p2, h.p3, h.p4, h.p5, h.pw, h.p6, v, h.p8, h.wz, h.ba, h.b1, h.b2, h.b3, h.rk, h.bk, h.sk, h.k1, h.k2, h.k3, h.k4, h.k5, h.it0, h.so, h.sz, h.it, h.th)
def YQ.set_p8 (h : YQ) (v : Int32) : YQ := (h.tx, h.ts, h.o1, h.o2, h.o3, h.o4, h.o5, h.o6, h.p1, h.p2, h.p3, h.p4, h.p5, h.pw, h.p6, h.p7, v, h.wz, h.ba, h.b1, h.b2, h.b3, h.rk, h.bk, h.sk, h.k1, h.k2, h.k3, h.k4, h.k5, h.it0, h.so, h.sz, h.it, h.th)
def YQ.set_wz (h : YQ) (v : F32) : YQ := (h.tx, h.ts, h.o1, h.o2, h.o3, h.o4, h.o5, h.o6, h.p1, h.p2, h.p3, h.p4, h.p5, h.pw, h.p6, h.p7, h.p8, v, h.ba, h.b1, h.b2, h.b3, h.rk, h.bk, h.sk, h.k1, h.k2, h.k3, h.k4, h.k5, h.it0, h.so, h.sz, h.it, h.th)
def YQ.set_ba (h : YQ) (v : F32) : YQ := (h.tx, h.ts, h.o1, h.o2, h.o3, h.o4, h.o5, h.o6, h.p1, h.p2, h.p3, h.p4, h.p5, h.pw, h.p6, h.p7, h.p8, h.wz, v, h.b1, h.b2, h.b3, h.rk, h.bk, h.sk, h.k1, h.k2, h.k3, h.k4, h.k5, h.it0, h.so, h.sz, h.it, h.th)
def YQ.set_b1 (h : YQ) (v : Int32) : YQ := (h.tx, h.ts, h.o1, h.o2, h.o3, h.o4, h.o5, h.o6, h.p1, h.p2, h.p3, h.p4, h.p5, h.pw, h.p6, h.p7, h.p8, h.wz, h.ba, v, h.b2, h.b3, h.rk, h.bk, h.sk, h.k1, h.k2, h.k3, h.k4, h.k5, h.it0, h.so, h.sz, h.it, h.th)
def YQ.set_b2 (h : YQ) (v : Int32) : YQ := (h.tx, h.ts, h.o1, h.o2, h.o3, h.o4, h.o5, h.o6, h.p1, h.p2, h.p3, h.p4, h.p5, h.pw, h.p6, h.p7, h.p8, h.wz, h.ba, h.b1, v, h.b3, h.rk, h.bk, h.sk, h.k1, h.k2, h.k3, h.k4, h.k5, h.it0, h.so, h.sz, h.it, h.th)
def YQ.set_b3 (h : YQ) (v : Int32) : YQ := (h.tx, h.ts, h.o1, h.o2, h.o3, h.o4, h.o5, h.o6, h.p1, h.p2, h.p3, h.p4, h.p5, h.pw, h.p6, h.p7, h.p8, h.wz, h.ba, h.b1, h.b2, v, h.rk, h.bk, h.sk, h.k1, h.k2, h.k3, h.k4, h.k5, h.it0, h.so, h.sz, h.it, h.th)
def YQ.set_rk (h : YQ) (v : F32) : YQ := (h.tx, h.ts, h.o1, h.o2, h.o3, h.o4, h.o5, h.o6, h.p1, h.p2, h.p3, h.p4, h.p5, h.pw, h.p6, h.p7, h.p8, h.wz, h.ba, h.b1, h.b2, h.b3, v, h.bk, h.sk, h.k1, h.k2, h.k3, h.k4, h.k5, h.it0, h.so, h.sz, h.it, h.th)
def YQ.set_bk (h : YQ) (v : F32) : YQ := (h.tx, h.ts, h.o1, h.o2, h.o3, h.o4, h.o5, h.o6, h.p1, h.p2, h.p3, h.p4, h.p5, h.pw, h.p6, h.p7, h.p8, h.wz, h.ba, h.b1, h.b2, h.b3, h.rk, v, h.sk, h.k1, h.k2, h.k3, h.k4, h.k5, h.it0, h.so, h.sz, h.it, h.th)
def YQ.set_sk (h : YQ) (v : F32) : YQ := (h.tx, h.ts, h.o1, h.o2, h.o3, h.o4, h.o5, h.o6, h.p1, h.p2, h.p3, h.p4, h.p5, h.pw, h.p6, h.p7, h.p8, h.wz, h.ba, h.b1, h.b2, h.b3, h.rk, h.bk, v, h.k1, h.k2, h.k3, h.k4, h.k5, h.it0, h.so, h.sz, h.it, h.th)
def YQ.set_k1 (h : YQ) (v : Int32) : YQ := (h.tx, h.ts, h.o1, h.o2, h.o3, h.o4, h.o5, h.o6, h.p1, h.p2, h.p3, h.p4, h.p5, h.pw, h.p6, h.p7, h.p8, h.wz, h.ba, h.b1, h.b2, h.b3, h.rk, h.bk, h.sk, v, h.k2, h.k3, h.k4, h.k5, h.it0, h.so, h.sz, h.it, h.th)
def YQ.set_k2 (h : YQ) (v : Int32) : YQ := (h.tx, h.ts, h.o1, h.o2, h.o3, h.o4, h.o5, h.o6, h.p1, h.p2, h.p3, h.p4, h.p5, h.pw, h.p6, h.p7, h.p8, h.wz, h.ba, h.b1, h.b2, h.b3, h.rk, h.bk, h.sk, h.k1, v, h.k3, h.k4, h.k5, h.it0, h.so, h.sz, h.it, h.th)
def YQ.set_k3 (h : YQ) (v : Int32) : YQ := (h.tx, h.ts, h.o1, h.o2, h.o3, h.o4, h.o5, h.o6, h.p1, h.p2, h.p3, h.p4, h.p5, h.pw, h.p6, h.p7, h.p8, h.wz, h.ba, h.b1, h.b2, h.b3, h.rk, h.bk, h.sk, h.k1, h.k2, v, h.k4, h.k5, h.it0, h.so, h.sz, h.it, h.th)
def YQ.set_k4 (h : YQ) (v : Int32) : YQ := (h.tx, h.ts, h.o1, h.o2, h.o3, h.o4, h.o5, h.o6, h.p1, h.p2, h.p3, h.p4, h.p5, h.pw, h.p6, h.p7, h.p8, h.wz, h.ba, h.b1, h.b2, h.b3, h.rk, h.bk, h.sk, h.k1, h.k2, h.k3, v, h.k5, h.it0, h.so, h.sz, h.it, h.th)
def YQ.set_k5 (h : YQ) (v : Int32) : YQ := (h.tx, h.ts, h.o1, h.o2, h.o3, h.o4, h.o5, h.o6, h.p1, h.p2, h.p3, h.p4, h.p5, h.pw, h.p6, h.p7, h.p8, h.wz, h.ba, h.b1, h.b2, h.b3, h.rk, h.bk, h.sk, h.k1, h.k2, h.k3, h.k4, v, h.it0, h.so, h.sz, h.it, h.th)
def YQ.set_it0 (h : YQ) (v : F32) : YQ := (h.tx, h.ts, h.o1, h.o2, h.o3, h.o4, h.o5, h.o6, h.p1, h.p2, h.p3, h.p4, h.p5, h.pw, h.p6, h.p7, h.p8, h.wz, h.ba, h.b1, h.b2, h.b3, h.rk, h.bk, h.sk, h.k1, h.k2, h.k3, h.k4, h.k5, v, h.so, h.sz, h.it, h.th)
def YQ.set_so (h : YQ) (v : F32) : YQ := (h.tx, h.ts, h.o1, h.o2, h.o3, h.o4, h.o5, h.o6, h.p1, h.p2, h.p3, h.p4, h.p5, h.pw, h.p6, h.p7, h.p8, h.wz, h.ba, h.b1, h.b2, h.b3, h.rk, h.bk, h.sk, h.k1, h.k2, h.k3, h.k4, h.k5, h.it0, v, h.sz, h.it, h.th)
def YQ.set_sz (h : YQ) (v : F32) : YQ := (h.tx, h.ts, h.o1, h.o2, h.o3, h.o4, h.o5, h.o6, h.p1, h.p2, h.p3, h.p4, h.p5, h.pw, h.p6, h.p7, h.p8, h.wz, h.ba, h.b1, h.b2, h.b3, h.rk, h.bk, h.sk, h.k1, h.k2, h.k3, h.k4, h.k5, h.it0, h.so, v, h.it, h.th)
def YQ.set_it (h : YQ) (v : F32) : YQ := (h.tx, h.ts, h.o1, h.o2, h.o3, h.o4, h.o5, h.o6, h.p1, h.p2, h.p3, h.p4, h.p5, h.pw, h.p6, h.p7, h.p8, h.wz, h.ba, h.b1, h.b2, h.b3, h.rk, h.bk, h.sk, h.k1, h.k2, h.k3, h.k4, h.k5, h.it0, h.so, h.sz, v, h.th)
def YQ.set_th (h : YQ) (v : Int32) : YQ := (h.tx, h.ts, h.o1, h.o2, h.o3, h.o4, h.o5, h.o6, h.p1, h.p2, h.p3, h.p4, h.p5, h.pw, h.p6, h.p7, h.p8, h.wz, h.ba, h.b1, h.b2, h.b3, h.rk, h.bk, h.sk, h.k1, h.k2, h.k3, h.k4, h.k5, h.it0, h.so, h.sz, h.it, v)
/-- number, skill, kind, place, four by four -/
def rowsF (S : SH) : F32 := fun j => match j % 4 with
  | 0 => S.nu (j / 4)
  | 1 => S.sk (j / 4)
  | 2 => S.ki (j / 4)
  | _ => S.pl (j / 4)
theorem rows0 (S : SH) (p : Nat) : rowsF S (4 * p) = S.nu p := by
  unfold rowsF
  rw [show 4 * p % 4 = 0 by omega, show 4 * p / 4 = p by omega]
  rfl
theorem rows1 (S : SH) (p : Nat) : rowsF S (4 * p + 1) = S.sk p := by
  unfold rowsF
  rw [show (4 * p + 1) % 4 = 1 by omega, show (4 * p + 1) / 4 = p by omega]
  rfl
theorem rows2 (S : SH) (p : Nat) : rowsF S (4 * p + 2) = S.ki p := by
  unfold rowsF
  rw [show (4 * p + 2) % 4 = 2 by omega, show (4 * p + 2) / 4 = p by omega]
  rfl
theorem rows3 (S : SH) (p : Nat) : rowsF S (4 * p + 3) = S.pl p := by
  unfold rowsF
  rw [show (4 * p + 3) % 4 = 3 by omega, show (4 * p + 3) / 4 = p by omega]
  rfl
theorem rows_ext {S : SH} {f : F32} (h : ∀ p, f (4 * p) = S.nu p ∧ f (4 * p + 1) = S.sk p ∧ f (4 * p + 2) = S.ki p ∧ f (4 * p + 3) = S.pl p) : f = rowsF S := by
  funext j
  obtain ⟨h0, h1, h2, h3⟩ := h (j / 4)
  rcases (by omega : j = 4 * (j / 4) ∨ j = 4 * (j / 4) + 1 ∨ j = 4 * (j / 4) + 2 ∨ j = 4 * (j / 4) + 3) with e | e | e | e
  · rw [e, h0, rows0]
  · rw [e, h1, rows1]
  · rw [e, h2, rows2]
  · rw [e, h3, rows3]
theorem rowsU0 (S : SH) (p : Nat) (v : Int32) : upd (rowsF S) (4 * p) v = rowsF (S.setNu (upd S.nu p v)) := by
  refine rows_ext (fun q => ?_)
  unfold upd
  by_cases hq : q = p
  · subst hq
    refine ⟨?_, ?_, ?_, ?_⟩
    · rw [if_pos rfl]; show v = (if q = q then v else _); rw [if_pos rfl]
    · rw [if_neg (by omega), rows1]; rfl
    · rw [if_neg (by omega), rows2]; rfl
    · rw [if_neg (by omega), rows3]; rfl
  · refine ⟨?_, ?_, ?_, ?_⟩
    · rw [if_neg (by omega), rows0]; show _ = (if q = p then v else _); rw [if_neg hq]
    · rw [if_neg (by omega), rows1]; rfl
    · rw [if_neg (by omega), rows2]; rfl
    · rw [if_neg (by omega), rows3]; rfl
theorem rowsU1 (S : SH) (p : Nat) (v : Int32) : upd (rowsF S) (4 * p + 1) v = rowsF (S.setSk (upd S.sk p v)) := by
  refine rows_ext (fun q => ?_)
  unfold upd
  by_cases hq : q = p
  · subst hq
    refine ⟨?_, ?_, ?_, ?_⟩
    · rw [if_neg (by omega), rows0]; rfl
    · rw [if_pos rfl]; show v = (if q = q then v else _); rw [if_pos rfl]
    · rw [if_neg (by omega), rows2]; rfl
    · rw [if_neg (by omega), rows3]; rfl
  · refine ⟨?_, ?_, ?_, ?_⟩
    · rw [if_neg (by omega), rows0]; rfl
    · rw [if_neg (by omega), rows1]; show _ = (if q = p then v else _); rw [if_neg hq]
    · rw [if_neg (by omega), rows2]; rfl
    · rw [if_neg (by omega), rows3]; rfl
theorem rowsU2 (S : SH) (p : Nat) (v : Int32) : upd (rowsF S) (4 * p + 2) v = rowsF (S.setKi (upd S.ki p v)) := by
  refine rows_ext (fun q => ?_)
  unfold upd
  by_cases hq : q = p
  · subst hq
    refine ⟨?_, ?_, ?_, ?_⟩
    · rw [if_neg (by omega), rows0]; rfl
    · rw [if_neg (by omega), rows1]; rfl
    · rw [if_pos rfl]; show v = (if q = q then v else _); rw [if_pos rfl]
    · rw [if_neg (by omega), rows3]; rfl
  · refine ⟨?_, ?_, ?_, ?_⟩
    · rw [if_neg (by omega), rows0]; rfl
    · rw [if_neg (by omega), rows1]; rfl
    · rw [if_neg (by omega), rows2]; show _ = (if q = p then v else _); rw [if_neg hq]
    · rw [if_neg (by omega), rows3]; rfl
theorem rowsU3 (S : SH) (p : Nat) (v : Int32) : upd (rowsF S) (4 * p + 3) v = rowsF (S.setPl (upd S.pl p v)) := by
  refine rows_ext (fun q => ?_)
  unfold upd
  by_cases hq : q = p
  · subst hq
    refine ⟨?_, ?_, ?_, ?_⟩
    · rw [if_neg (by omega), rows0]; rfl
    · rw [if_neg (by omega), rows1]; rfl
    · rw [if_neg (by omega), rows2]; rfl
    · rw [if_pos rfl]; show v = (if q = q then v else _); rw [if_pos rfl]
  · refine ⟨?_, ?_, ?_, ?_⟩
    · rw [if_neg (by omega), rows0]; rfl
    · rw [if_neg (by omega), rows1]; rfl
    · rw [if_neg (by omega), rows2]; rfl
    · rw [if_neg (by omega), rows3]; show _ = (if q = p then v else _); rw [if_neg hq]
def mW (A : AS) (h : YQ) : XW := [.inr (5, [.int h.th, .ref 1, .ref 2, .int (nI A.tc), .int (nI A.ru), .ref 3, .int (nI A.pn), .int A.S.dy, .int A.S.se, .int A.S.wa, .ref 4, .ref 5, .ref 6, .int (nI A.S.n),
  .int h.o1, .int h.o2, .int h.o3, .int h.o4, .int h.o5, .int h.o6, .int h.p1, .int h.p2, .int h.p3, .int h.p4, .int h.p5, .long h.pw, .int h.p6, .int h.p7, .int h.p8, .ref 7, .ref 8, .int h.b1, .int h.b2, .int h.b3, .ref 9, .ref 10, .ref 11, .int h.k1, .int h.k2, .int h.k3, .int h.k4, .int h.k5, .ref 12, .ref 13, .ref 14, .ref 15]),
  .inl (0, 960, .inl h.tx), .inl (0, 6, .inl h.ts), .inl (0, 160, .inl A.pb), .inl (0, 10, .inl A.S.ma), .inl (0, 10, .inl A.S.so), .inl (0, 20, .inl (rowsF A.S)), .inl (0, 43, .inl h.wz), .inl (0, 3, .inl h.ba), .inl (0, 20, .inl h.rk), .inl (0, 10, .inl h.bk), .inl (0, 10, .inl h.sk), .inl (1, 4, .inl h.it0), .inl (0, 4, .inl h.so), .inl (0, 4, .inl h.sz), .inl (0, 160, .inl h.it)]
theorem ix4 (p k : Nat) (h : 4 * p + k < 2147483648) : (4 : Int32) * nI p + nI k = nI (4 * p + k) := by
  rw [show (4 : Int32) = nI 4 from rfl, pk_mul, nI_add]
-- ===== the reference's leaves =====
def RI (S : SH) : Prop := S.n ≤ 5 ∧ (0 ≤ S.se ∧ S.se ≤ 99) ∧ (∀ k, k < 10 → 0 ≤ S.so k ∧ S.so k ≤ 99) ∧ (0 ≤ S.wa ∧ S.wa ≤ 100) ∧ ∀ p, p < S.n → (0 ≤ S.nu p ∧ S.nu p ≤ 9) ∧ (0 ≤ S.sk p ∧ S.sk p ≤ 99) ∧ (0 ≤ S.ki p ∧ S.ki p ≤ 5) ∧ (0 ≤ S.pl p ∧ S.pl p ≤ 2)
section MODEL
variable (E : XEnv) (A : AS) (h : YQ)
theorem f_in0 (v b : Int32) {b' : Int64} (hb : b.toInt64 = b') : f_in v.toInt64 0 b' = f_within v 0 b := f_in_w (a := 0) (by decide +kernel) hb
set_option maxRecDepth 100000 in
theorem c_X5_isOne (p : Int32) : XCall E 10 yX5_isOne cX5_isOne 2 (some .boolean) [.ref 0, .int p] (mW A h) (fun r σ' => r = some (.int (hasF A.S p)) ∧ σ' = mW A h) := by
  refine XCall.of (by decide +kernel) (xle rfl) (xgo sX5_isOne [] 60 (xle rfl) ?_)
  have e : f_in p.toInt64 0 (nI A.S.n - 1).toInt64 = hasF A.S p := f_in0 p _ rfl
  exact ⟨by rw [e]; exact f_within_01 _ _ _, by rw [e], rfl⟩
set_option maxRecDepth 100000 in
theorem c_X5_isAt (p : Nat) (hp : p < 5) (w : Int32) : XCall E 10 yX5_isAt cX5_isAt 3 (some .boolean) [.ref 0, .int (nI p), .int w] (mW A h) (fun r σ' => r = some (.int (if A.S.pl p = w then 1 else 0)) ∧ σ' = mW A h) := by
  have e : (4 : Int32) * nI p + 3 = nI (4 * p + 3) := ix4 p 3 (by omega)
  have ec : (nI (4 * p + 3)).toNatClampNeg = 4 * p + 3 := nI_clamp (by omega)
  refine XCall.of (by decide +kernel) (xle rfl) (xgo sX5_isAt [] 60 (xle rfl) ⟨by rw [e]; exact vp_in_nI (by omega) (by omega), ?_⟩)
  rw [e, ec, rows3]
  exact ⟨fun q => ⟨Or.inl rfl, by rw [if_neg q], rfl⟩, fun q => ⟨Or.inr rfl, by rw [if_pos q], rfl⟩⟩
theorem or0 (x s : Int32) : x ||| ((0 : Int32) <<< s) = x := by
  have : (0 : Int32) <<< s = 0 := by
    apply Int32.toBitVec_inj.mp
    rw [Int32.toBitVec_shiftLeft]
    simp
  rw [this]
  exact Int32.or_zero
set_option maxRecDepth 100000 in
theorem l_X5_madeBy (w : Int32) (j : Nat) : ∀ (k : Nat), k + j = 10 → XAt E RX5 cX5_madeBy 4 (some .int) 10 16 (fun r σ' => r = some (.int (whoF A.S.ma w 10)) ∧ σ' = mW A h) 4 [(0, .ref 0), (1, .int w), (2, .int (whoF A.S.ma w k)), (3, .int (nI k))] [] (mW A h) := by
  induction j with
  | zero =>
    intro k hk
    obtain rfl : k = 10 := by omega
    exact xgo sX5_madeBy [4] 60 (xle rfl) ⟨fun _ => ⟨rfl, rfl⟩, fun h => absurd (nI_le (a := 10) (b := 10) (Nat.le_refl _) (by omega)) h⟩
  | succ j IH =>
    intro k hk
    have hc : (nI k).toNatClampNeg = k := nI_clamp (by omega)
    refine xgo sX5_madeBy [4] 60 (xle rfl) ⟨fun h => absurd h (nI_ge (b := 10) (by omega) (by omega)), fun _ => ⟨vp_in_nI (by omega) (by omega), fun q => ?_, fun q => ?_⟩⟩
    · rw [hc] at q
      have ih := IH (k + 1) (by omega)
      rw [nI_succ, whoF_n q, ← or0 (whoF A.S.ma w k) (nI k &&& 31)] at ih
      exact ih
    · rw [hc] at q
      have ih := IH (k + 1) (by omega)
      rw [nI_succ, whoF_y q] at ih
      exact ih
theorem c_X5_madeBy (w : Int32) : XCall E 10 yX5_madeBy cX5_madeBy 4 (some .int) [.ref 0, .int w] (mW A h) (fun r σ' => r = some (.int (whoF A.S.ma w 10)) ∧ σ' = mW A h) :=
  XCall.of (by decide +kernel) (xle rfl) (xgo sX5_madeBy [4] 60 (xle rfl) (l_X5_madeBy E A h w 10 0 rfl))
set_option maxRecDepth 100000 in
theorem l_X5_whoIs (hn : A.S.n ≤ 5) (w : Int32) (j : Nat) : ∀ (k : Nat), k + j = A.S.n → XAt E RX5 cX5_whoIs 4 (some .int) 11 16 (fun r σ' => r = some (.int (whoF A.S.pl w A.S.n)) ∧ σ' = mW A h) 4 [(0, .ref 0), (1, .int w), (2, .int (whoF A.S.pl w k)), (3, .int (nI k))] [] (mW A h) := by
  induction j with
  | zero =>
    intro k hk
    obtain rfl : k = A.S.n := by omega
    exact xgo sX5_whoIs [4] 60 (xle rfl) ⟨fun _ => ⟨rfl, rfl⟩, fun h => absurd (nI_le (a := A.S.n) (b := A.S.n) (Nat.le_refl _) (by omega)) h⟩
  | succ j IH =>
    intro k hk
    refine xgo sX5_whoIs [4] 60 (xle rfl) ⟨fun h => absurd h (nI_ge (b := A.S.n) (by omega) (by omega)), fun _ => XIn.same (xle rfl) (c_X5_isAt E A h k (by omega) w) (fun r σ' _ q => ?_)⟩
    obtain ⟨rfl, rfl⟩ := q
    by_cases hp : A.S.pl k = w
    · rw [if_pos hp]
      refine ⟨fun q => absurd q (by decide), fun _ => ?_⟩
      have ih := IH (k + 1) (by omega)
      rw [nI_succ, whoF_y hp] at ih
      exact ih
    · rw [if_neg hp]
      refine ⟨fun _ => ?_, fun q => absurd rfl q⟩
      have ih := IH (k + 1) (by omega)
      rw [nI_succ, whoF_n hp, ← or0 (whoF A.S.pl w k) (nI k &&& 31)] at ih
      exact ih
theorem c_X5_whoIs (hn : A.S.n ≤ 5) (w : Int32) : XCall E 11 yX5_whoIs cX5_whoIs 4 (some .int) [.ref 0, .int w] (mW A h) (fun r σ' => r = some (.int (whoF A.S.pl w A.S.n)) ∧ σ' = mW A h) :=
  XCall.of (by decide +kernel) (xle rfl) (xgo sX5_whoIs [4] 60 (xle rfl) (l_X5_whoIs E A h hn w A.S.n 0 (Nat.zero_add _)))
theorem i32_of {x : Int32} {N : Nat} (hN : N < 2147483648) (h0 : 0 ≤ x) (h1 : x ≤ nI N) : ∃ k, k ≤ N ∧ x = nI k := by
  obtain ⟨j, hj, rfl⟩ := nI_of (Int32.not_lt.mpr h0)
  exact ⟨j, (nI_leI hj hN).mp h1, rfl⟩
theorem f_max_sub {a b : Nat} (ha : a < 1073741824) (hb : b < 1073741824) : f_max 0 (nI a - nI b) = nI (a - b) := by
  unfold f_max
  rcases Nat.lt_or_ge b a with q | q
  · rw [pk_sub (by omega), if_pos (show (0 : Int32) < nI (a - b) from nI_lt (a := 0) (by omega) (by omega))]
  · rcases Nat.eq_or_lt_of_le q with e | e
    · subst e
      rw [Int32.sub_self, Nat.sub_self]
      rfl
    · have := pk_sneg hb e
      rw [if_neg (fun z => Int32.lt_irrefl (Int32.lt_trans z this)), show a - b = 0 by omega]
      rfl
set_option maxRecDepth 100000 in
theorem c_X5_leaksOf (hR : RI A.S) (k : Nat) (hk : k < 10) : XCall E 10 yX5_leaksOf cX5_leaksOf 3 (some .int) [.ref 0, .int (nI k)] (mW A h) (fun r σ' => r = some (.int (leakF A.S.se A.S.so k)) ∧ σ' = mW A h) := by
  have hc : (nI k).toNatClampNeg = k := nI_clamp (by omega)
  obtain ⟨a, ha, hae⟩ := i32_of (N := 99) (by omega) hR.2.1.1 hR.2.1.2
  obtain ⟨b, hb, hbe⟩ := i32_of (N := 99) (by omega) (hR.2.2.1 k hk).1 (hR.2.2.1 k hk).2
  have em : f_max 0 (A.S.se - A.S.so k) = nI (a - b) := by rw [hae, hbe]; exact f_max_sub (by omega) (by omega)
  have tail : ∀ v, v = nI (a - b) → XAt E RX5 cX5_leaksOf 3 (some .int) 10 16 (fun r σ' => r = some (.int (leakF A.S.se A.S.so k)) ∧ σ' = mW A h) 28 [(0, .ref 0), (1, .int (nI k))] [.int v] (mW A h) := by
    intro v hv
    subst hv
    refine xgo sX5_leaksOf [] 60 (xle rfl) ⟨fun q => ⟨by decide, ?_, rfl⟩, fun q => ⟨?_, rfl⟩⟩
    · rw [leakF, if_pos q, em]
    · rw [leakF, if_neg q, em]
  refine XCall.of (by decide +kernel) (xle rfl) (xgo sX5_leaksOf [28] 60 (xle rfl) ⟨vp_in_nI (by omega) (by omega), fun q => ⟨vp_in_nI (by omega) (by omega), ?_⟩, fun q => ?_⟩)
  · rw [hc, hae, hbe] at q
    refine tail _ ?_
    rw [hc, hae, hbe]
    exact pk_sub ((nI_leI (by omega) (by omega)).mp q)
  · rw [hc, hae, hbe] at q
    refine tail _ ?_
    have : a - b = 0 := by
      rcases Nat.lt_or_ge b a with z | z
      · exact absurd (nI_le (by omega : b ≤ a) (by omega)) q
      · omega
    rw [this]
    rfl
set_option maxRecDepth 100000 in
theorem l_X5_leaksAll (hR : RI A.S) (j : Nat) : ∀ (k : Nat), k + j = 10 → XAt E RX5 cX5_leaksAll 3 (some .int) 11 16 (fun r σ' => r = some (.int (alF A.S.se A.S.so 10)) ∧ σ' = mW A h) 4 [(0, .ref 0), (1, .int (alF A.S.se A.S.so k)), (2, .int (nI k))] [] (mW A h) := by
  induction j with
  | zero =>
    intro k hk
    obtain rfl : k = 10 := by omega
    exact xgo sX5_leaksAll [4] 60 (xle rfl) ⟨fun _ => ⟨rfl, rfl⟩, fun h => absurd (nI_le (a := 10) (b := 10) (Nat.le_refl _) (by omega)) h⟩
  | succ j IH =>
    intro k hk
    refine xgo sX5_leaksAll [4] 60 (xle rfl) ⟨fun h => absurd h (nI_ge (b := 10) (by omega) (by omega)), fun _ => XIn.same (xle rfl) (c_X5_leaksOf E A h hR k (by omega)) (fun r σ' _ q => ?_)⟩
    obtain ⟨rfl, rfl⟩ := q
    have ih := IH (k + 1) (by omega)
    rw [nI_succ, alF_s] at ih
    exact ih
theorem c_X5_leaksAll (hR : RI A.S) : XCall E 11 yX5_leaksAll cX5_leaksAll 3 (some .int) [.ref 0] (mW A h) (fun r σ' => r = some (.int (alF A.S.se A.S.so 10)) ∧ σ' = mW A h) :=
  XCall.of (by decide +kernel) (xle rfl) (xgo sX5_leaksAll [4] 60 (xle rfl) (l_X5_leaksAll E A h hR 10 0 rfl))
end MODEL
