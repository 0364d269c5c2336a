/** Promises 1 to 7: each sentence that names a boundary has a test of its own. */
public final class EdgesOfBytesTest {
    private static final Due DUE = new Due();
    private static final int BAD = StatusDesk.BAD;
    private static final int FULL = StatusDesk.FULL;
    private static final int NONE = StatusDesk.NONE;
    private static final int MOST = 1500;
    private static final int[] FAR = {Integer.MIN_VALUE, Integer.MIN_VALUE + 1, -256, Integer.MAX_VALUE - 1, Integer.MAX_VALUE};

    private EdgesOfBytesTest() {
    }

    public static void main(String[] args) {
        DUE.sentence("1: No authorities", EdgesOfBytesTest::noAuthorities);
        DUE.sentence("1: an empty TAPE", EdgesOfBytesTest::emptyTape);
        DUE.sentence("1: an empty OUT", EdgesOfBytesTest::emptyOut);
        DUE.sentence("1: nothing held", EdgesOfBytesTest::nothingHeld);
        DUE.sentence("2: n lowest bytes, the lowest first", EdgesOfBytesTest::feedOrder);
        DUE.sentence("2: n 1 .. 8; BAD", EdgesOfBytesTest::feedBad);
        DUE.sentence("2: FULL: more than 1500", EdgesOfBytesTest::feedFull);
        DUE.sentence("2: BAD before FULL", EdgesOfBytesTest::feedBadBeforeFull);
        DUE.sentence("3: the TAPE is what OUT is", EdgesOfBytesTest::takeReplaces);
        DUE.sentence("3: an empty OUT", EdgesOfBytesTest::takeEmpty);
        DUE.sentence("3: which stays", EdgesOfBytesTest::takeKeepsOut);
        DUE.sentence("4: the lowest byte of a mask", EdgesOfBytesTest::spoilMask);
        DUE.sentence("4: a byte of the TAPE; BAD", EdgesOfBytesTest::spoilBad);
        DUE.sentence("5: behind its first n bytes", EdgesOfBytesTest::cutEdges);
        DUE.sentence("5: BAD", EdgesOfBytesTest::cutBad);
        DUE.sentence("6: how many bytes OUT has", EdgesOfBytesTest::sizes);
        DUE.sentence("7: byte i of OUT", EdgesOfBytesTest::outBytes);
        DUE.sentence("7: NONE", EdgesOfBytesTest::outNone);
        DUE.end("EdgesOfBytesTest");
    }

    private static void noAuthorities() {
        StatusDesk desk = new StatusDesk();
        DUE.is("told", desk.told(0), 0);
        DUE.is("signers", desk.told(1), 0);
        DUE.is("key", desk.key(0, 0), BAD);
        DUE.is("key of a signer", desk.key(1, 0), BAD);
        DUE.is("issue", desk.issue(0, 0), BAD);
        DUE.is("takeBack", desk.takeBack(0, 0, 0, 0), BAD);
        DUE.is("lift", desk.lift(0, 0), false);
        DUE.is("want", desk.want(0, 0), BAD);
        DUE.is("cert", desk.cert(0), BAD);
        DUE.is("answer", desk.answer(0, 0, 0), BAD);
        DUE.is("look", desk.look(0, 0, 0, 0, 0), BAD);
        desk.feed(1, 1);
        DUE.is("signer", desk.signer(0, 1, 0, 0, 0, 0), BAD);
        desk.feed(1, 1);
        DUE.is("the first is number 0", desk.authority(1), 0);
    }

    private static void emptyTape() {
        StatusDesk desk = new StatusDesk();
        DUE.is("told", desk.told(3), 0);
        DUE.is("cut(0)", desk.cut(0), 0);
        DUE.is("cut(1)", desk.cut(1), BAD);
        DUE.is("spoil(0)", desk.spoil(0, 1), BAD);
        DUE.is("hash", desk.hash(), Texts.hash(Texts.none()));
        DUE.is("no name", desk.authority(1), BAD);
        for (int what = 0; what < 3; what++) {
            DUE.is("check " + what, desk.check(what), -10);
        }
        DUE.is("the first byte", desk.feed(9, 1), 1);
    }

    private static void emptyOut() {
        StatusDesk desk = new StatusDesk();
        DUE.is("size", desk.size(), 0);
        DUE.is("out", desk.out(0), NONE);
        DUE.is("take", desk.take(), 0);
    }

    private static void nothingHeld() {
        StatusDesk desk = withRoot();
        DUE.is("told", desk.told(4), 0);
        DUE.is("held", desk.held(0, 0, 0), 0);
        DUE.is("held at another TIME", desk.held(0, 7, 2000), 0);
        DUE.is("hold", desk.hold(), NONE);
        for (int what = 0; what < 5; what++) {
            DUE.is("found " + what, desk.found(what), NONE);
        }
        DUE.is("nothing is wanted", desk.ask(), NONE);
        DUE.is("no look lets pass", desk.passes(false), false);
        DUE.is("nor hard", desk.passes(true), false);
        desk.want(0, 7);
        desk.ask();
        desk.take();
        DUE.is("no nonce is told", desk.check(1), 6);
    }

    private static void feedOrder() {
        long row = 0xF8E7D6C5B4A39281L;
        for (int n = 1; n <= 8; n++) {
            StatusDesk desk = new StatusDesk();
            desk.feed(0x77, 1);
            DUE.is("feed " + n, desk.feed(row, n), 1 + n);
            DUE.is("what was there stays", desk.spoil(0, 0), 0x77);
            for (int i = 0; i < n; i++) {
                DUE.is("byte " + i + " of " + n, desk.spoil(1 + i, 0), row >>> (8 * i) & 255);
            }
            DUE.is("no byte more", desk.spoil(1 + n, 0), BAD);
        }
    }

    private static void feedBad() {
        StatusDesk desk = new StatusDesk();
        desk.feed(5, 1);
        for (int n : new int[] {0, -1, 9, 16, 64}) {
            DUE.is("feed n " + n, desk.feed(-1, n), BAD);
        }
        for (int n : FAR) {
            DUE.is("feed n " + n, desk.feed(-1, n), BAD);
        }
        DUE.is("nothing came", desk.told(3), 1);
        DUE.is("1 is enough", desk.feed(6, 1), 2);
        DUE.is("8 is not too many", desk.feed(6, 8), 10);
    }

    private static StatusDesk withTape(int n) {
        StatusDesk desk = new StatusDesk();
        for (int left = n; left > 0; left -= Math.min(8, left)) {
            desk.feed(0x0101010101010101L, Math.min(8, left));
        }
        return desk;
    }

    private static void feedFull() {
        for (int n = 1; n <= 8; n++) {
            StatusDesk desk = withTape(MOST - n);
            DUE.is("just room for " + n, desk.feed(-1, n), MOST);
            DUE.is("the last byte", desk.spoil(MOST - 1, 0), 255);
            DUE.is("behind it", desk.spoil(MOST, 0), BAD);
            StatusDesk less = withTape(MOST - n + 1);
            long hash = less.hash();
            DUE.is("a byte too many, of " + n, less.feed(-1, n), FULL);
            DUE.is("nothing came, no part of it", less.told(3), MOST - n + 1);
            DUE.is("the TAPE is as it was", less.hash(), hash);
        }
        StatusDesk desk = withTape(MOST);
        DUE.is("1500 stand", desk.told(3), MOST);
        DUE.is("no byte more", desk.feed(0, 1), FULL);
        DUE.is("all is cut", desk.cut(0), MOST);
        DUE.is("there is room again", desk.feed(0, 8), 8);
    }

    private static void feedBadBeforeFull() {
        StatusDesk desk = withTape(MOST);
        DUE.is("n 0", desk.feed(0, 0), BAD);
        DUE.is("n 9", desk.feed(0, 9), BAD);
        DUE.is("n below 0", desk.feed(0, -8), BAD);
    }

    private static StatusDesk withRoot() {
        StatusDesk desk = new StatusDesk();
        Texts.feed(desk, Texts.text("root"));
        desk.authority(12345);
        return desk;
    }

    /** OUT is an ask of 30 bytes then. */
    private static StatusDesk withOut() {
        StatusDesk desk = withRoot();
        desk.want(0, 7);
        desk.ask();
        return desk;
    }

    private static void takeReplaces() {
        for (int n : new int[] {0, 1, 29, 30, 200}) {
            StatusDesk desk = withOut();
            Texts.feed(desk, new byte[n]);
            DUE.is("take, over " + n, desk.take(), desk.size());
            DUE.is("so many", desk.told(3), desk.size());
            DUE.is("the same bytes", desk.hash(), Texts.hash(Texts.out(desk)));
            DUE.is("behind them", desk.spoil(desk.size(), 0), BAD);
        }
    }

    private static void takeEmpty() {
        StatusDesk desk = withTape(MOST);
        DUE.is("take", desk.take(), 0);
        DUE.is("the TAPE is empty", desk.told(3), 0);
        DUE.is("and has no byte", desk.spoil(0, 0), BAD);
    }

    private static void takeKeepsOut() {
        StatusDesk desk = withOut();
        byte[] out = Texts.out(desk);
        desk.take();
        desk.spoil(0, 255);
        desk.spoil(out.length - 1, 1);
        desk.feed(-1, 8);
        DUE.is("size", desk.size(), out.length);
        DUE.is("its bytes", Texts.hash(Texts.out(desk)), Texts.hash(out));
        desk.cut(0);
        DUE.is("it is taken again", desk.take(), out.length);
        DUE.is("as it was", desk.hash(), Texts.hash(out));
        DUE.is("while OUT is so long still", desk.size(), out.length);
    }

    private static void spoilMask() {
        StatusDesk desk = new StatusDesk();
        desk.feed(0x00A55A, 3);
        DUE.is("0", desk.spoil(1, 0), 0xA5);
        DUE.is("255", desk.spoil(1, 255), 0x5A);
        DUE.is("256 has a lowest byte 0", desk.spoil(1, 256), 0x5A);
        DUE.is("511", desk.spoil(1, 511), 0xA5);
        DUE.is("-1", desk.spoil(1, -1), 0x5A);
        DUE.is("-256", desk.spoil(1, -256), 0x5A);
        DUE.is("the least int", desk.spoil(1, Integer.MIN_VALUE), 0x5A);
        DUE.is("the largest int", desk.spoil(1, Integer.MAX_VALUE), 0xA5);
        DUE.is("128 is no number below 0", desk.spoil(2, 128), 128);
        DUE.is("the byte before is as it was", desk.spoil(0, 0), 0x5A);
        DUE.is("so many as before", desk.told(3), 3);
    }

    private static void spoilBad() {
        StatusDesk desk = new StatusDesk();
        DUE.is("of an empty TAPE", desk.spoil(0, 1), BAD);
        desk.feed(0x0201, 2);
        long hash = desk.hash();
        DUE.is("-1", desk.spoil(-1, 1), BAD);
        DUE.is("how many there are", desk.spoil(2, 1), BAD);
        for (int i : FAR) {
            DUE.is("spoil " + i, desk.spoil(i, 1), BAD);
        }
        DUE.is("no byte is another", desk.hash(), hash);
        DUE.is("the first", desk.spoil(0, 1), 0);
        DUE.is("the last", desk.spoil(1, 1), 3);
        desk.cut(1);
        DUE.is("what is cut off", desk.spoil(1, 1), BAD);
        desk.cut(0);
        DUE.is("the first, cut off", desk.spoil(0, 1), BAD);
    }

    private static void cutEdges() {
        StatusDesk desk = withTape(MOST);
        DUE.is("as many as there are", desk.cut(MOST), MOST);
        DUE.is("no byte went", desk.told(3), MOST);
        DUE.is("one less", desk.cut(MOST - 1), MOST);
        DUE.is("one went", desk.told(3), MOST - 1);
        DUE.is("to one", desk.cut(1), MOST - 1);
        DUE.is("the first stays", desk.hash(), Texts.hash(new byte[] {1}));
        DUE.is("to none", desk.cut(0), 1);
        DUE.is("none is there", desk.told(3), 0);
        DUE.is("none of none", desk.cut(0), 0);
    }

    private static void cutBad() {
        StatusDesk desk = new StatusDesk();
        DUE.is("1 of none", desk.cut(1), BAD);
        desk.feed(0x030201, 3);
        desk.cut(2);
        DUE.is("one that was cut off", desk.cut(3), BAD);
        DUE.is("-1", desk.cut(-1), BAD);
        for (int n : FAR) {
            DUE.is("cut " + n, desk.cut(n), BAD);
        }
        DUE.is("nothing was cut", desk.hash(), Texts.hash(new byte[] {1, 2}));
    }

    private static void sizes() {
        StatusDesk desk = withRoot();
        DUE.is("of none", desk.size(), 0);
        desk.answer(0, 0, 0);
        DUE.is("of a status alone", desk.size(), 5);
        desk.want(0, 7);
        DUE.is("what ask told", desk.ask(), desk.size());
        desk.feed(1, 1);
        desk.signer(0, 5, 5, 0, 0, 1);
        int cert = desk.size();
        DUE.is("what cert told", desk.cert(0), cert);
        DUE.is("no such cert", desk.cert(1), BAD);
        DUE.is("it is as it was", desk.size(), cert);
        desk.take();
        desk.cut(1);
        DUE.is("the TAPE is another", desk.size(), cert);
    }

    private static void outBytes() {
        StatusDesk desk = withOut();
        byte[] due = Texts.ask(Texts.none(), Texts.id(Texts.text("root"), Texts.key(12345), 7));
        int high = 0;
        for (int i = 0; i < due.length; i++) {
            DUE.is("byte " + i, desk.out(i), due[i] & 255);
            high += due[i] < 0 ? 1 : 0;
        }
        DUE.is("some are 128 at least", high > 0, true);
    }

    private static void outNone() {
        StatusDesk desk = new StatusDesk();
        DUE.is("0 of none", desk.out(0), NONE);
        DUE.is("-1 of none", desk.out(-1), NONE);
        desk = withOut();
        int size = desk.size();
        DUE.is("the last is there", desk.out(size - 1), 7);
        DUE.is("how many there are", desk.out(size), NONE);
        DUE.is("-1", desk.out(-1), NONE);
        for (int i : FAR) {
            DUE.is("out " + i, desk.out(i), NONE);
        }
        desk.answer(0, 0, 0);
        DUE.is("the last of a shorter OUT", desk.out(4), 1);
        DUE.is("what a longer one had behind", desk.out(5), NONE);
        DUE.is("far behind", desk.out(size - 1), NONE);
    }
}
