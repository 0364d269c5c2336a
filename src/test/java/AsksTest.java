import java.util.Arrays;

/** Promises 14 to 17: want, nonce, ask, answer. */
public final class AsksTest {
    private static final Due DUE = new Due();
    private static final int BAD = StatusDesk.BAD;
    private static final int FULL = StatusDesk.FULL;
    private static final int NONE = StatusDesk.NONE;
    private static final long LAST = 3155759999L;
    private static final byte[] ROOT = Texts.text("root");
    private static final byte[] OTHER = Texts.text("other");
    private static final int ROOT_SECRET = 12345;
    private static final int OTHER_SECRET = 54321;
    private static final int SIGNER_SECRET = 777;

    private AsksTest() {
    }

    public static void main(String[] args) {
        want();
        nonce();
        ask();
        answerStates();
        answerBySigner();
        answerShortest();
        answerOfOthers();
        answerNoAsk();
        answerRefused();
        answerLongest();
        DUE.end("AsksTest");
    }

    private static StatusDesk desk() {
        StatusDesk desk = new StatusDesk();
        Texts.feed(desk, ROOT);
        desk.authority(ROOT_SECRET);
        Texts.feed(desk, OTHER);
        desk.authority(OTHER_SECRET);
        Texts.feed(desk, Texts.text("sig"));
        desk.signer(0, SIGNER_SECRET, 50, 0, 100000, 1);
        return desk;
    }

    private static byte[] rootId(long serial) {
        return Texts.id(ROOT, Texts.key(ROOT_SECRET), serial);
    }

    private static byte[] otherId(long serial) {
        return Texts.id(OTHER, Texts.key(OTHER_SECRET), serial);
    }

    /** Takes OUT on the TAPE for that: byte by byte an answer needs more calls than a desk has. */
    private static void isOut(String call, StatusDesk desk, byte[] want) {
        DUE.is(call + ", size", desk.size(), want.length);
        desk.take();
        DUE.is(call + ", hash", desk.hash(), Texts.hash(want));
        desk.cut(0);
    }

    private static void want() {
        StatusDesk desk = desk();
        DUE.is("14: no such authority", desk.want(2, 1), BAD);
        DUE.is("14: no such authority", desk.want(-1, 1), BAD);
        DUE.is("14: below 0", desk.want(0, -1), BAD);
        DUE.is("14: none is wanted", desk.told(2), 0);
        for (int i = 1; i <= 8; i++) {
            DUE.is("14: the same again", desk.want(0, i / 2), i);
        }
        DUE.is("14: a ninth", desk.want(0, 1), FULL);
        DUE.is("14: a ninth, wrong", desk.want(0, -1), BAD);
        DUE.is("14: eight", desk.told(2), 8);
        desk.ask();
        DUE.is("14: they are gone", desk.told(2), 0);
        DUE.is("14: the next ask", desk.want(1, 1), 1);
    }

    private static void nonce() {
        StatusDesk desk = desk();
        DUE.is("15: eight", desk.nonce(0x0807060504030201L, 8), 8);
        for (int n : new int[] {-1, 9, Integer.MIN_VALUE, Integer.MAX_VALUE}) {
            DUE.is("15: n " + n, desk.nonce(5, n), BAD);
        }
        desk.want(0, 7);
        desk.ask();
        isOut("15: the lowest first", desk, Texts.ask(new byte[] {1, 2, 3, 4, 5, 6, 7, 8}, rootId(7)));
        desk.want(0, 7);
        desk.ask();
        isOut("15: it stays", desk, Texts.ask(new byte[] {1, 2, 3, 4, 5, 6, 7, 8}, rootId(7)));
        DUE.is("15: one", desk.nonce(-2, 1), 1);
        desk.want(0, 7);
        desk.ask();
        isOut("15: one byte", desk, Texts.ask(new byte[] {-2}, rootId(7)));
        DUE.is("15: none", desk.nonce(5, 0), 0);
        desk.want(0, 7);
        desk.ask();
        isOut("15: no nonce", desk, Texts.ask(Texts.none(), rootId(7)));
    }

    private static void ask() {
        StatusDesk desk = desk();
        desk.cert(0);
        int size = desk.size();
        DUE.is("16: nothing is wanted", desk.ask(), NONE);
        DUE.is("16: OUT is as it was", desk.size(), size);
        desk.want(0, 0);
        desk.want(1, 127);
        desk.want(0, 128);
        desk.want(1, Integer.MAX_VALUE);
        Texts.feed(desk, Texts.text("tape"));
        byte[] due = Texts.ask(Texts.none(), rootId(0), otherId(127), rootId(128), otherId(Integer.MAX_VALUE));
        DUE.is("16: four", desk.ask(), due.length);
        DUE.is("16: the TAPE is not read", desk.told(3), 4);
        isOut("16: in their order", desk, due);
        DUE.is("16: they are gone", desk.ask(), NONE);
        for (int i = 0; i < 8; i++) {
            desk.want(0, 1 << (3 * i));
        }
        desk.nonce(-1, 8);
        DUE.is("16: a length of two bytes", desk.ask() > 128 + 3, true);
        desk.take();
        DUE.is("16: it is an ask", desk.check(1), 2 + 8 * 4 + 2);
    }

    private static void answerStates() {
        StatusDesk desk = desk();
        desk.issue(0, 7);
        desk.issue(0, 8);
        desk.issue(0, 9);
        desk.takeBack(0, 8, 2000, 1);
        desk.takeBack(0, 9, 2001, 0);
        byte[] nonce = Texts.text("sixteen bytes ab");
        byte[] stranger = Texts.row(Texts.bytes(Texts.hashBytes(ROOT)), Texts.bytes(new byte[8]), Texts.integer(7));
        Texts.feed(desk, Texts.ask(nonce, rootId(7), rootId(8), rootId(9), rootId(10), otherId(7), stranger));
        DUE.is("17: by the authority", desk.answer(0, 2000, 500), 0);
        DUE.is("17: the TAPE is read", desk.told(3), 0);
        byte[] body = Texts.body(Texts.byName(ROOT), 2000, nonce,
                Texts.single(rootId(7), Texts.good(), 2000, 2500),
                Texts.single(rootId(8), Texts.takenBack(2000, 1), 2000, 2500),
                Texts.single(rootId(9), Texts.good(), 2000, 2500),
                Texts.single(rootId(10), Texts.notKnown(), 2000, 2500),
                Texts.single(otherId(7), Texts.notKnown(), 2000, 2500),
                Texts.single(stranger, Texts.notKnown(), 2000, 2500));
        isOut("17: its bytes", desk, Texts.answer(body, Texts.sign(ROOT_SECRET, body), Texts.none()));
        DUE.is("17: answers of status 0", desk.told(5), 1);
        DUE.is("17: others", desk.told(6), 0);
    }

    private static void answerBySigner() {
        StatusDesk desk = desk();
        desk.cert(0);
        byte[] cert = Texts.out(desk);
        Texts.feed(desk, Texts.ask(Texts.none(), rootId(50)));
        DUE.is("17: by a signer", desk.answer(4, 2000, 0), 0);
        byte[] body = Texts.body(Texts.byKey(Texts.key(SIGNER_SECRET)), 2000, Texts.none(),
                Texts.single(rootId(50), Texts.good(), 2000, -1));
        isOut("17: its bytes", desk, Texts.answer(body, Texts.sign(SIGNER_SECRET, body), cert));
        Texts.feed(desk, Texts.ask(Texts.none(), rootId(50)));
        DUE.is("17: no such signer", desk.answer(5, 2000, 0), BAD);
        Texts.feed(desk, Texts.ask(Texts.none(), rootId(50)));
        DUE.is("17: up to the last TIME", desk.answer(4, LAST - 1, 1), 0);
        Texts.feed(desk, Texts.ask(Texts.none(), rootId(50)));
        DUE.is("17: at the last TIME", desk.answer(4, LAST, 0), 0);
        Texts.feed(desk, Texts.ask(Texts.none(), rootId(50)));
        DUE.is("17: all the time", desk.answer(4, 0, LAST), 0);
    }

    /** A life of one second and a nonce of one byte are there; a serial 0 is one like others. */
    private static void answerShortest() {
        StatusDesk desk = desk();
        desk.issue(0, 0);
        Texts.feed(desk, Texts.ask(new byte[] {9}, rootId(0)));
        DUE.is("17: a life of one", desk.answer(0, 2000, 1), 0);
        byte[] body = Texts.body(Texts.byName(ROOT), 2000, new byte[] {9}, Texts.single(rootId(0), Texts.good(), 2000, 2001));
        isOut("17: its bytes", desk, Texts.answer(body, Texts.sign(ROOT_SECRET, body), Texts.none()));
        desk.take();
        DUE.is("18: serial 0", desk.look(0, 0, 2000, 0, 0), 1);
        DUE.is("21: is held", desk.hold(), 1);
        DUE.is("22: and known", desk.held(0, 0, 2001), 1);
    }

    private static void answerOfOthers() {
        StatusDesk desk = desk();
        Texts.feed(desk, Texts.ask(Texts.none(), rootId(50), rootId(7)));
        DUE.is("17: none of its own", desk.answer(1, 2000, 0), 6);
        isOut("17: status 6", desk, Texts.status(6));
        byte[] halves = Texts.row(Texts.bytes(Texts.hashBytes(ROOT)),
                Texts.bytes(Texts.keyHash(Texts.key(OTHER_SECRET))), Texts.integer(50));
        Texts.feed(desk, Texts.ask(Texts.none(), halves));
        DUE.is("17: both HASHES count", desk.answer(0, 2000, 0), 6);
        Texts.feed(desk, Texts.ask(Texts.none(), halves));
        DUE.is("17: for both", desk.answer(1, 2000, 0), 6);
        Texts.feed(desk, Texts.ask(Texts.none(), otherId(50)));
        DUE.is("17: a signer's authority", desk.answer(4, 2000, 0), 6);
        DUE.is("17: answers of status 0", desk.told(5), 0);
        DUE.is("17: others", desk.told(6), 4);
        Texts.feed(desk, Texts.text("two"));
        desk.signer(1, 778, 60, 0, 100000, 1);
        Texts.feed(desk, Texts.ask(Texts.none(), otherId(60)));
        DUE.is("17: a signer of the second", desk.answer(5, 2000, 0), 0);
        desk.take();
        DUE.is("18: it is right", desk.look(1, 60, 2000, 0, 0), 1);
        Texts.feed(desk, Texts.ask(Texts.none(), rootId(50), otherId(5)));
        DUE.is("17: one is enough", desk.answer(1, 2000, 0), 0);
    }

    private static void answerNoAsk() {
        StatusDesk desk = desk();
        DUE.is("17: an empty TAPE", desk.answer(0, 2000, 0), 1);
        isOut("17: status 1", desk, Texts.status(1));
        desk.cert(0);
        desk.take();
        DUE.is("17: a cert", desk.answer(0, 2000, 0), 1);
        DUE.is("17: the TAPE is read", desk.told(3), 0);
        Texts.feed(desk, Texts.join(Texts.ask(Texts.none(), rootId(50)), new byte[1]));
        DUE.is("17: a byte too much", desk.answer(0, 2000, 0), 1);
        DUE.is("17: others", desk.told(6), 3);
    }

    private static void answerRefused() {
        StatusDesk desk = desk();
        desk.want(0, 7);
        int size = desk.ask();
        long[][] wrong = {{-1, 0, 0}, {2, 0, 0}, {3, 0, 0}, {5, 0, 0}, {11, 0, 0}, {12, 0, 0},
            {Integer.MIN_VALUE, 0, 0}, {Integer.MAX_VALUE, 0, 0},
            {0, -1, 0}, {0, LAST + 1, 0}, {0, Long.MIN_VALUE, 0}, {0, Long.MAX_VALUE, 0},
            {0, 0, -1}, {0, 0, LAST + 1}, {0, 1, LAST}, {0, LAST, 1}, {0, 5, Long.MAX_VALUE}, {0, 5, Long.MIN_VALUE}};
        for (long[] numbers : wrong) {
            desk.take();
            DUE.is("17: " + Arrays.toString(numbers), desk.answer((int) numbers[0], numbers[1], numbers[2]), BAD);
            DUE.is("17: refused, but read", desk.told(3), 0);
        }
        DUE.is("17: OUT is as it was", desk.size(), size);
        DUE.is("17: no answer", desk.told(5) + desk.told(6), 0);
    }

    /** Eight singles, all taken back, with names, serials and a nonce as long as can be. */
    private static void answerLongest() {
        StatusDesk desk = new StatusDesk();
        byte[] name = Texts.text("sixteen bytes ab");
        Texts.feed(desk, name);
        desk.authority(ROOT_SECRET);
        Texts.feed(desk, name);
        desk.signer(0, SIGNER_SECRET, 2000000000, 0, LAST, 3);
        byte[][] ids = new byte[8][];
        for (int i = 0; i < 8; i++) {
            desk.issue(0, 2000000001 + i);
            desk.takeBack(0, 2000000001 + i, 5, i);
            ids[i] = Texts.id(name, Texts.key(ROOT_SECRET), 2000000001 + i);
        }
        Texts.feed(desk, Texts.ask(name, ids));
        DUE.is("17: the longest", desk.answer(4, 1000, 1000), 0);
        DUE.is("17: its bytes", desk.take(), 889);
        DUE.is("17: its items", desk.check(2), 4 + 4 + 1 + 8 * 11 + 2 + 1 + 1 + 10);
        DUE.is("17: it is right", desk.look(0, 2000000008, 1500, 0, 0), 2);
    }
}
