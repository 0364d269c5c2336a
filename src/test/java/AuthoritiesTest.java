import java.util.Arrays;

/** Promises 8 to 13: authority, issue, takeBack, lift, signer, cert. */
public final class AuthoritiesTest {
    private static final Due DUE = new Due();
    private static final int BAD = StatusDesk.BAD;
    private static final int FULL = StatusDesk.FULL;
    private static final int NONE = StatusDesk.NONE;
    private static final int LAST_SECRET = 1073741788;
    private static final int LAST_SERIAL = Integer.MAX_VALUE;
    private static final long LAST = 3155759999L;
    private static final byte[] ROOT = Texts.text("root");

    private AuthoritiesTest() {
    }

    public static void main(String[] args) {
        authority();
        authorityRefused();
        issue();
        takeBack();
        lift();
        signer();
        signerRefused();
        signerFull();
        cert();
        DUE.end("AuthoritiesTest");
    }

    private static int named(StatusDesk desk, String name, int secret) {
        Texts.feed(desk, Texts.text(name));
        return desk.authority(secret);
    }

    private static StatusDesk root() {
        StatusDesk desk = new StatusDesk();
        named(desk, "root", 12345);
        return desk;
    }

    private static void authority() {
        StatusDesk desk = new StatusDesk();
        DUE.is("8: the first", named(desk, "a", 1), 0);
        DUE.is("8: the TAPE is read", desk.told(3), 0);
        DUE.is("8: sixteen bytes, the last SECRET", named(desk, "sixteen bytes ab", LAST_SECRET), 1);
        DUE.is("8: the name is there, its number counts not", named(desk, "a", 2), FULL);
        DUE.is("8: the TAPE is read, too", desk.told(3), 0);
        DUE.is("8: a longer name, the same SECRET", named(desk, "aa", 1), 2);
        DUE.is("8: another first byte", named(desk, "ba", 1), 3);
        DUE.is("8: four", desk.told(0), 4);
        DUE.is("8: a fifth", named(desk, "c", 5), FULL);
        DUE.is("8: wrong before full", named(desk, "c", 0), BAD);
        DUE.is("8: still four", desk.told(0), 4);
        DUE.is("8: key of the first", desk.key(0, 0), 4);
        DUE.is("8: key of the second", desk.key(0, 1), Texts.key(LAST_SECRET));
    }

    private static void authorityRefused() {
        StatusDesk desk = new StatusDesk();
        DUE.is("8: no name", desk.authority(1), BAD);
        DUE.is("8: seventeen bytes", named(desk, "seventeen bytes a", 1), BAD);
        DUE.is("8: refused, but read", desk.told(3), 0);
        for (int secret : new int[] {0, -1, LAST_SECRET + 1, Integer.MIN_VALUE, Integer.MAX_VALUE}) {
            DUE.is("8: SECRET " + secret, named(desk, "a", secret), BAD);
            DUE.is("8: refused, but read", desk.told(3), 0);
        }
        DUE.is("8: none was made", desk.told(0), 0);
    }

    private static void issue() {
        StatusDesk desk = root();
        DUE.is("9: 0", desk.issue(0, 0), 1);
        DUE.is("9: the last", desk.issue(0, LAST_SERIAL), 2);
        DUE.is("9: it is", desk.issue(0, 0), FULL);
        DUE.is("9: below 0", desk.issue(0, -1), BAD);
        DUE.is("9: no such authority", desk.issue(1, 5), BAD);
        DUE.is("9: no such authority", desk.issue(-1, 5), BAD);
        DUE.is("9: no such authority", desk.issue(Integer.MAX_VALUE, 5), BAD);
        for (int i = 3; i <= 32; i++) {
            DUE.is("9: many", desk.issue(0, i), i);
        }
        DUE.is("9: 33", desk.issue(0, 33), FULL);
        DUE.is("9: BAD before FULL", desk.issue(0, -5), BAD);
        named(desk, "other", 3);
        DUE.is("9: another's LIST", desk.issue(1, 0), 1);
    }

    private static void takeBack() {
        StatusDesk desk = root();
        desk.issue(0, 7);
        desk.issue(0, 8);
        named(desk, "other", 3);
        DUE.is("10: not ISSUED", desk.takeBack(0, 9, 5, 1), NONE);
        DUE.is("10: of another", desk.takeBack(1, 7, 5, 1), NONE);
        for (int reason : new int[] {-1, 11, Integer.MIN_VALUE, Integer.MAX_VALUE}) {
            DUE.is("10: reason " + reason, desk.takeBack(0, 7, 5, reason), BAD);
        }
        for (long time : new long[] {-1, LAST + 1, Long.MIN_VALUE, Long.MAX_VALUE}) {
            DUE.is("10: TIME " + time, desk.takeBack(0, 7, time, 1), BAD);
        }
        DUE.is("10: serial below 0", desk.takeBack(0, -7, 5, 1), BAD);
        DUE.is("10: no such authority", desk.takeBack(2, 7, 5, 1), BAD);
        DUE.is("10: BAD before NONE", desk.takeBack(0, 9, -1, 1), BAD);
        DUE.is("10: at the last TIME", desk.takeBack(0, 7, LAST, 10), 1);
        DUE.is("10: again", desk.takeBack(0, 7, 5, 1), FULL);
        DUE.is("10: BAD before FULL", desk.takeBack(0, 7, 5, 11), BAD);
        DUE.is("10: at 0, for 0", desk.takeBack(0, 8, 0, 0), 2);
        desk.issue(1, 7);
        DUE.is("10: another's count", desk.takeBack(1, 7, 5, 1), 1);
        desk.issue(1, 0);
        DUE.is("10: serial 0", desk.takeBack(1, 0, 5, 1), 2);
    }

    private static void lift() {
        StatusDesk desk = root();
        desk.issue(0, 7);
        desk.issue(0, 8);
        named(desk, "other", 3);
        DUE.is("11: not taken back", desk.lift(0, 7), false);
        DUE.is("11: not ISSUED", desk.lift(0, 9), false);
        DUE.is("11: below 0", desk.lift(0, -1), false);
        desk.takeBack(0, 7, 5, 6);
        desk.takeBack(0, 8, 5, 5);
        DUE.is("11: another reason", desk.lift(0, 8), false);
        DUE.is("11: another authority", desk.lift(1, 7), false);
        DUE.is("11: no authority", desk.lift(2, 7), false);
        DUE.is("11: no authority", desk.lift(-1, 7), false);
        DUE.is("11: lifted", desk.lift(0, 7), true);
        DUE.is("11: not twice", desk.lift(0, 7), false);
        DUE.is("11: it is ISSUED still", desk.issue(0, 7), FULL);
        DUE.is("11: and can be taken back", desk.takeBack(0, 7, 9, 1), 2);
        DUE.is("11: for another reason", desk.lift(0, 7), false);
    }

    private static int signer(StatusDesk desk, String name, int... numbers) {
        Texts.feed(desk, Texts.text(name));
        return desk.signer(numbers[0], numbers[1], numbers[2], numbers[3], numbers[4], numbers[5]);
    }

    private static byte[] certOf(String name, int secret, int serial, long from, long to, int flags) {
        byte[] inner = Texts.certInner(serial, ROOT, Texts.text(name), from, to, Texts.key(secret), flags);
        return Texts.signed(inner, 12345);
    }

    private static void signer() {
        StatusDesk desk = root();
        desk.issue(0, 7);
        DUE.is("12: the first", signer(desk, "sig", 0, 777, 50, 0, 100000, 1), 0);
        DUE.is("12: the TAPE is read", desk.told(3), 0);
        DUE.is("12: OUT is its cert", Arrays.equals(Texts.out(desk), certOf("sig", 777, 50, 0, 100000, 1)), true);
        DUE.is("12: its serial is ISSUED", desk.issue(0, 50), FULL);
        DUE.is("12: and counts", desk.issue(0, 51), 3);
        DUE.is("12: an ISSUED serial, the same name", signer(desk, "sig", 0, 777, 7, 9, 3, 0), 1);
        DUE.is("12: its cert", Arrays.equals(Texts.out(desk), certOf("sig", 777, 7, 9, 3, 0)), true);
        DUE.is("12: no serial more", desk.issue(0, 52), 4);
        Texts.feed(desk, Texts.text("sixteen bytes ab"));
        DUE.is("12: the edges", desk.signer(0, LAST_SECRET, LAST_SERIAL, LAST, 0, 3), 2);
        DUE.is("12: their cert",
                Arrays.equals(Texts.out(desk), certOf("sixteen bytes ab", LAST_SECRET, LAST_SERIAL, LAST, 0, 3)), true);
        Texts.feed(desk, Texts.text("x"));
        DUE.is("12: serial 0", desk.signer(0, 1, 0, 0, LAST, 2), 3);
        DUE.is("12: its cert", Arrays.equals(Texts.out(desk), certOf("x", 1, 0, 0, LAST, 2)), true);
        DUE.is("12: key", desk.key(1, 0), Texts.key(777));
        DUE.is("12: four signers", desk.told(1), 4);
    }

    private static void signerRefused() {
        StatusDesk desk = root();
        desk.want(0, 1);
        desk.ask();
        int size = desk.size();
        int[] right = {0, 777, 50, 0, 100, 1};
        int[][] wrong = {{0, -1}, {0, 1}, {0, 4}, {1, 0}, {1, -1}, {1, LAST_SECRET + 1}, {2, -1}, {3, -1}, {4, -1}, {5, -1}, {5, 4}};
        for (int[] change : wrong) {
            int[] numbers = right.clone();
            numbers[change[0]] = change[1];
            DUE.is("12: number " + change[0] + " is " + change[1], signer(desk, "sig", numbers), BAD);
            DUE.is("12: refused, but read", desk.told(3), 0);
        }
        Texts.feed(desk, Texts.text("sig"));
        DUE.is("12: from behind the last TIME", desk.signer(0, 777, 50, LAST + 1, 5, 1), BAD);
        Texts.feed(desk, Texts.text("sig"));
        DUE.is("12: to behind the last TIME", desk.signer(0, 777, 50, 5, LAST + 1, 1), BAD);
        DUE.is("12: no name", signer(desk, "", right), BAD);
        DUE.is("12: seventeen bytes", signer(desk, "seventeen bytes a", right), BAD);
        DUE.is("12: none was made", desk.told(1), 0);
        DUE.is("12: no serial was ISSUED", desk.issue(0, 1), 1);
        DUE.is("12: OUT is as it was", desk.size(), size);
    }

    private static void signerFull() {
        StatusDesk desk = root();
        for (int i = 1; i <= 31; i++) {
            desk.issue(0, i);
        }
        DUE.is("12: the 32nd serial", signer(desk, "s", 0, 5, 100, 0, 9, 1), 0);
        DUE.is("12: a 33rd", signer(desk, "s", 0, 5, 101, 0, 9, 1), FULL);
        DUE.is("12: full, but read", desk.told(3), 0);
        DUE.is("12: one of the 32", signer(desk, "s", 0, 5, 31, 0, 9, 1), 1);
        named(desk, "other", 3);
        for (int i = 2; i < 8; i++) {
            DUE.is("12: signers of all authorities", signer(desk, "s", 1, 5, i, 0, 9, 1), i);
        }
        DUE.is("12: a ninth", signer(desk, "s", 1, 5, 20, 0, 9, 1), FULL);
        DUE.is("12: a ninth, wrong", signer(desk, "s", 1, 0, 20, 0, 9, 1), BAD);
        DUE.is("12: its serial is not ISSUED", desk.takeBack(1, 20, 5, 1), NONE);
        DUE.is("12: eight", desk.told(1), 8);
    }

    private static void cert() {
        StatusDesk desk = root();
        DUE.is("13: none", desk.cert(0), BAD);
        signer(desk, "sig", 0, 777, 50, 0, 100000, 1);
        signer(desk, "two", 0, 778, 51, 1, 2, 3);
        byte[] first = certOf("sig", 777, 50, 0, 100000, 1);
        DUE.is("13: the first", desk.cert(0), first.length);
        DUE.is("13: its bytes", Arrays.equals(Texts.out(desk), first), true);
        DUE.is("13: the second", desk.cert(1), first.length);
        DUE.is("13: its bytes", Arrays.equals(Texts.out(desk), certOf("two", 778, 51, 1, 2, 3)), true);
        DUE.is("13: a third", desk.cert(2), BAD);
        DUE.is("13: below 0", desk.cert(-1), BAD);
        DUE.is("13: OUT is as it was", desk.size(), first.length);
        Texts.feed(desk, Texts.text("tape"));
        desk.cert(0);
        DUE.is("13: the TAPE is not read", desk.told(3), 4);
    }
}
