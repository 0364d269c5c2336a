/** Promises 1 to 7: a new object; feed, take, spoil, cut, size, out. */
public final class BytesTest {
    private static final Due DUE = new Due();

    private BytesTest() {
    }

    public static void main(String[] args) {
        newObject();
        feed();
        feedFull();
        take();
        spoil();
        cut();
        sizeAndOut();
        DUE.end("BytesTest");
    }

    private static void newObject() {
        StatusDesk desk = new StatusDesk();
        for (int what = 0; what < 8; what++) {
            DUE.is("1: told " + what, desk.told(what), 0);
        }
        DUE.is("1: size", desk.size(), 0);
        DUE.is("1: out 0", desk.out(0), StatusDesk.NONE);
        DUE.is("1: key", desk.key(0, 0), StatusDesk.BAD);
        DUE.is("1: hold", desk.hold(), StatusDesk.NONE);
        DUE.is("1: found", desk.found(0), StatusDesk.NONE);
        DUE.is("1: ask", desk.ask(), StatusDesk.NONE);
        DUE.is("1: passes hard", desk.passes(true), false);
        DUE.is("1: passes", desk.passes(false), false);
        StatusDesk other = new StatusDesk();
        other.feed(1, 8);
        DUE.is("1: objects share nothing", desk.told(3), 0);
    }

    private static void feed() {
        StatusDesk desk = new StatusDesk();
        DUE.is("2: one byte", desk.feed(0x1FFL, 1), 1);
        DUE.is("2: the lowest byte", desk.spoil(0, 0), 0xFF);
        DUE.is("2: eight bytes", desk.feed(0x8877665544332211L, 8), 9);
        for (int i = 0; i < 8; i++) {
            DUE.is("2: the lowest first, " + i, desk.spoil(1 + i, 0), 0x11 * (i + 1));
        }
        for (int n : new int[] {0, -1, 9, Integer.MIN_VALUE, Integer.MAX_VALUE}) {
            DUE.is("2: feed n " + n, desk.feed(1, n), StatusDesk.BAD);
        }
        DUE.is("2: refused changes nothing", desk.told(3), 9);
    }

    private static void feedFull() {
        StatusDesk desk = new StatusDesk();
        for (int i = 1; i <= 187; i++) {
            DUE.is("2: feed", desk.feed(i, 8), 8 * i);
        }
        DUE.is("2: 1501 bytes", desk.feed(0, 5), StatusDesk.FULL);
        DUE.is("2: a wrong n before no room", desk.feed(0, 9), StatusDesk.BAD);
        DUE.is("2: unchanged", desk.told(3), 1496);
        DUE.is("2: 1500 bytes", desk.feed(-1, 4), 1500);
        DUE.is("2: no byte more", desk.feed(0, 1), StatusDesk.FULL);
        DUE.is("2: the last byte", desk.spoil(1499, 0), 255);
        DUE.is("2: behind it", desk.spoil(1500, 0), StatusDesk.BAD);
        DUE.is("2: cut makes room", desk.cut(1499), 1500);
        DUE.is("2: for one", desk.feed(7, 1), 1500);
    }

    private static void take() {
        StatusDesk desk = withOut();
        desk.feed(-1, 8);
        int size = desk.size();
        DUE.is("3: take", desk.take(), size);
        DUE.is("3: the TAPE", desk.told(3), size);
        DUE.is("3: OUT stays", desk.size(), size);
        DUE.is("3: the bytes", desk.hash(), Texts.hash(Texts.out(desk)));
        desk.spoil(0, 255);
        desk.cut(1);
        DUE.is("3: OUT is not the TAPE", desk.out(0), 48);
        DUE.is("3: OUT is whole", desk.size(), size);
        DUE.is("3: take again", desk.take(), size);
        DUE.is("3: its first byte", desk.spoil(0, 0), 48);
        StatusDesk empty = new StatusDesk();
        empty.feed(1, 1);
        DUE.is("3: of an empty OUT", empty.take(), 0);
        DUE.is("3: an empty TAPE", empty.told(3), 0);
    }

    private static void spoil() {
        StatusDesk desk = new StatusDesk();
        desk.feed(0x00A5L, 2);
        DUE.is("4: xor", desk.spoil(0, 0x0F), 0xAA);
        DUE.is("4: the lowest byte of the mask", desk.spoil(0, 0x7FFFFF00), 0xAA);
        DUE.is("4: a mask below 0", desk.spoil(1, -1), 255);
        DUE.is("4: back again", desk.spoil(1, -1), 0);
        for (int i : new int[] {-1, 2, Integer.MIN_VALUE, Integer.MAX_VALUE}) {
            DUE.is("4: spoil " + i, desk.spoil(i, 1), StatusDesk.BAD);
        }
        desk.cut(1);
        DUE.is("4: behind a cut", desk.spoil(1, 1), StatusDesk.BAD);
    }

    private static void cut() {
        StatusDesk desk = new StatusDesk();
        desk.feed(0x060504030201L, 6);
        DUE.is("5: more than there are", desk.cut(7), StatusDesk.BAD);
        DUE.is("5: below 0", desk.cut(-1), StatusDesk.BAD);
        DUE.is("5: least", desk.cut(Integer.MIN_VALUE), StatusDesk.BAD);
        DUE.is("5: nothing is cut", desk.cut(6), 6);
        DUE.is("5: how many it had", desk.cut(2), 6);
        DUE.is("5: how many it has", desk.told(3), 2);
        DUE.is("5: the first stay", desk.hash(), Texts.hash(new byte[] {1, 2}));
        DUE.is("5: behind the end", desk.cut(3), StatusDesk.BAD);
        DUE.is("5: what follows", desk.feed(9, 1), 3);
        DUE.is("5: is behind the cut", desk.hash(), Texts.hash(new byte[] {1, 2, 9}));
        DUE.is("5: all", desk.cut(0), 3);
        DUE.is("5: empty", desk.cut(0), 0);
    }

    private static void sizeAndOut() {
        StatusDesk desk = withOut();
        byte[] ask = Texts.ask(Texts.none(), Texts.id(Texts.text("root"), Texts.key(12345), 7));
        DUE.is("6: size", desk.size(), ask.length);
        for (int i = 0; i < ask.length; i++) {
            DUE.is("7: out " + i, desk.out(i), ask[i] & 255);
        }
        for (int i : new int[] {-1, ask.length, Integer.MIN_VALUE, Integer.MAX_VALUE}) {
            DUE.is("7: out " + i, desk.out(i), StatusDesk.NONE);
        }
        desk.answer(0, 0, 0);
        DUE.is("6: a short OUT behind a long one", desk.size(), 5);
        DUE.is("7: its end", desk.out(5), StatusDesk.NONE);
    }

    private static StatusDesk withOut() {
        StatusDesk desk = new StatusDesk();
        Texts.feed(desk, Texts.text("root"));
        desk.authority(12345);
        desk.want(0, 7);
        desk.ask();
        return desk;
    }
}
