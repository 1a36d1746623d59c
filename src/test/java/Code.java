/** Puts instructions together, so that the tests can say what their programs do. */
final class Code {
    static final int[] ALL = {
        0x00, 0x20, 0x60, 0x80, 0x01, 0x61, 0x81, 0x02, 0x03, 0x07, 0x87, 0x84,
        0x04, 0x14, 0x24, 0x34, 0x44, 0x54, 0xa4, 0x64, 0x74,
        0x0c, 0x1c, 0x2c, 0x3c, 0x4c, 0x5c, 0xac, 0x6c, 0x7c,
        0x05, 0x15, 0x25, 0x35, 0x45, 0x1d, 0x2d, 0x3d, 0x4d, 0x06, 0x16};

    private Code() {
    }

    static long of(int code, long k) {
        return of(code, 0, 0, k);
    }

    static long of(int code, int jt, int jf, long k) {
        return k << 32 | (long) jf << 24 | (long) jt << 16 | code;
    }

    static CallFilter filter(long... program) {
        CallFilter x = new CallFilter(0);
        replace(x, program);
        return x;
    }

    static void replace(CallFilter x, long... program) {
        x.cut(x.length());
        for (long instruction : program) {
            x.put(instruction);
        }
    }

    /** What a program sees as word i of the record; the program of x is lost. */
    static long wordOf(CallFilter x, int i) {
        replace(x, of(0x20, 4L * i), of(0x16, 0));
        return x.run();
    }
}
