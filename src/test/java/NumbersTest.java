import java.util.Random;

/** Promises 24 to 27: clock, hash, key, told. */
public final class NumbersTest {
    private static final Due DUE = new Due();
    private static final int BAD = StatusDesk.BAD;
    private static final long LAST = 3155759999L;

    private NumbersTest() {
    }

    public static void main(String[] args) {
        clock();
        clockRefused();
        hash();
        key();
        told();
        DUE.end("NumbersTest");
    }

    private static void isClock(long time) {
        StatusDesk desk = new StatusDesk();
        String stamp = Texts.stamp(time);
        for (int i = 0; i < 15; i++) {
            DUE.is("24: clock " + time + ", " + i, desk.clock(time, i), stamp.charAt(i));
        }
    }

    private static void clock() {
        isClock(0);
        isClock(LAST);
        for (int day = 0; day < 36525; day += 1) {
            isClock(day * 86400L + day * 7919L % 86400);
        }
        Random random = new Random(24);
        for (int i = 0; i < 1000; i++) {
            isClock((long) (random.nextDouble() * LAST));
        }
    }

    private static void clockRefused() {
        StatusDesk desk = new StatusDesk();
        for (int i : new int[] {-1, 15, Integer.MIN_VALUE, Integer.MAX_VALUE}) {
            DUE.is("24: character " + i, desk.clock(0, i), BAD);
        }
        for (long time : new long[] {-1, LAST + 1, Long.MIN_VALUE, Long.MAX_VALUE}) {
            DUE.is("24: TIME " + time, desk.clock(time, 0), BAD);
        }
    }

    private static void hash() {
        StatusDesk desk = new StatusDesk();
        DUE.is("25: nothing", desk.hash(), 340954278254150813L);
        Random random = new Random(25);
        for (int i = 1; i <= 180; i++) {
            byte[] bytes = new byte[i % 30];
            random.nextBytes(bytes);
            desk = new StatusDesk();
            Texts.feed(desk, bytes);
            DUE.is("25: hash " + i, desk.hash(), Texts.hash(bytes));
            DUE.is("25: the TAPE stays", desk.told(3), bytes.length);
        }
    }

    private static void key() {
        StatusDesk desk = new StatusDesk();
        DUE.is("26: no authority", desk.key(0, 0), BAD);
        DUE.is("26: no signer", desk.key(1, 0), BAD);
        int[] secrets = {1, 2, 1073741788, 536870912};
        for (int i = 0; i < 4; i++) {
            Texts.feed(desk, new byte[i + 1]);
            desk.authority(secrets[i]);
            DUE.is("26: authority " + i, desk.key(0, i), Texts.key(secrets[i]));
        }
        for (int i = 0; i < 8; i++) {
            Texts.feed(desk, new byte[1]);
            desk.signer(i % 4, 1000 + i, i, 0, 0, 0);
            DUE.is("26: signer " + i, desk.key(1, i), Texts.key(1000 + i));
        }
        for (int what : new int[] {-1, 2, Integer.MIN_VALUE, Integer.MAX_VALUE}) {
            DUE.is("26: what " + what, desk.key(what, 0), BAD);
        }
        for (int k : new int[] {-1, 8, Integer.MIN_VALUE, Integer.MAX_VALUE}) {
            DUE.is("26: authority " + k, desk.key(0, k), BAD);
            DUE.is("26: signer " + k, desk.key(1, k), BAD);
        }
        DUE.is("26: no fifth authority", desk.key(0, 4), BAD);
    }

    private static void isTold(String call, StatusDesk desk, int... due) {
        for (int what = 0; what < 8; what++) {
            DUE.is("27: " + call + ", " + what, desk.told(what), due[what]);
        }
    }

    private static void told() {
        StatusDesk desk = new StatusDesk();
        for (int what : new int[] {-1, 8, Integer.MIN_VALUE, Integer.MAX_VALUE}) {
            DUE.is("27: what " + what, desk.told(what), BAD);
        }
        desk.feed(1, 2);
        isTold("fed", desk, 0, 0, 0, 2, 0, 0, 0, 0);
        desk.authority(5);
        isTold("an authority", desk, 1, 0, 0, 0, 0, 0, 0, 0);
        desk.feed(1, 3);
        desk.signer(0, 6, 7, 0, 9, 1);
        isTold("a signer", desk, 1, 1, 0, 0, 0, 0, 0, 0);
        desk.want(0, 7);
        isTold("wanted", desk, 1, 1, 1, 0, 0, 0, 0, 0);
        int ask = desk.ask();
        desk.take();
        isTold("asked", desk, 1, 1, 0, ask, 0, 0, 0, 0);
        desk.answer(4, 5, 0);
        isTold("answered", desk, 1, 1, 0, 0, 0, 1, 0, 0);
        int answer = desk.take();
        desk.answer(4, 5, 0);
        isTold("an answer of another status", desk, 1, 1, 0, 0, 0, 1, 1, 0);
        DUE.is("27: an answer", answer > 100, true);
        desk.take();
        desk.look(0, 7, 5, 0, 0);
        isTold("looked", desk, 1, 1, 0, 0, 0, 1, 1, 1);
        desk.look(1, 7, 5, 0, 0);
        isTold("refused", desk, 1, 1, 0, 0, 0, 1, 1, 1);
        desk.want(0, 7);
        desk.ask();
        desk.take();
        desk.answer(0, 5, 0);
        desk.take();
        desk.look(0, 7, 5, 0, 0);
        desk.hold();
        isTold("held", desk, 1, 1, 0, 0, 1, 2, 1, 2);
    }
}
