/** AUTHORITIES and promises 8 to 13: each sentence that names a boundary has a test of its own. */
public final class EdgesOfAuthoritiesTest {
    private static final Due DUE = new Due();
    private static final int BAD = StatusDesk.BAD;
    private static final int FULL = StatusDesk.FULL;
    private static final int NONE = StatusDesk.NONE;
    private static final int LAST_SERIAL = Integer.MAX_VALUE;
    private static final int LAST_SECRET = 1073741788;
    private static final long LAST = 3155759999L;
    private static final byte[] ROOT = Texts.text("root");
    private static final int[] NO_AUTHORITIES = {-1, 2, 3, 4, 5, Integer.MIN_VALUE, Integer.MAX_VALUE};

    private EdgesOfAuthoritiesTest() {
    }

    public static void main(String[] args) {
        DUE.sentence("AUTHORITIES, 4 at most; 8: FULL (4)", EdgesOfAuthoritiesTest::fourAuthorities);
        DUE.sentence("a name of 1 to 16 bytes; 8: BAD (the name)", EdgesOfAuthoritiesTest::names);
        DUE.sentence("no two the same; 8: FULL (that name)", EdgesOfAuthoritiesTest::sameNames);
        DUE.sentence("8: BAD before FULL", EdgesOfAuthoritiesTest::authorityBadBeforeFull);
        DUE.sentence("8: the TAPE is empty in any case", EdgesOfAuthoritiesTest::authorityReadsTape);
        DUE.sentence("9: a serial (0 .. 2^31 - 1)", EdgesOfAuthoritiesTest::issueSerials);
        DUE.sentence("9: BAD: no such authority", EdgesOfAuthoritiesTest::issueNoAuthority);
        DUE.sentence("9: FULL (32)", EdgesOfAuthoritiesTest::issueMost);
        DUE.sentence("9: FULL (or it is)", EdgesOfAuthoritiesTest::issueTwice);
        DUE.sentence("10: BAD", EdgesOfAuthoritiesTest::takeBackBad);
        DUE.sentence("10: BAD (also a TIME)", EdgesOfAuthoritiesTest::takeBackTimes);
        DUE.sentence("10: BAD (a reason); a reason 0 .. 10", EdgesOfAuthoritiesTest::takeBackReasons);
        DUE.sentence("10: NONE: it is not ISSUED", EdgesOfAuthoritiesTest::takeBackNone);
        DUE.sentence("10: FULL: it is taken back", EdgesOfAuthoritiesTest::takeBackFull);
        DUE.sentence("10: how many the authority has taken back", EdgesOfAuthoritiesTest::takeBackCounts);
        DUE.sentence("11: a reason 6", EdgesOfAuthoritiesTest::liftReasons);
        DUE.sentence("11: is not TAKEN BACK any more", EdgesOfAuthoritiesTest::liftEnds);
        DUE.sentence("11: whether it was so", EdgesOfAuthoritiesTest::liftFalse);
        DUE.sentence("12: its name the TAPE", EdgesOfAuthoritiesTest::signerNames);
        DUE.sentence("12: BAD: each number", EdgesOfAuthoritiesTest::signerNumbers);
        DUE.sentence("12: times, the one behind the other or not", EdgesOfAuthoritiesTest::signerTimes);
        DUE.sentence("12: flags 0 .. 3", EdgesOfAuthoritiesTest::signerFlags);
        DUE.sentence("12: serial, which is ISSUED if it is not", EdgesOfAuthoritiesTest::signerSerials);
        DUE.sentence("SIGNERS, 8 at most; 12: FULL (8 signers)", EdgesOfAuthoritiesTest::eightSigners);
        DUE.sentence("12: FULL (32 serials)", EdgesOfAuthoritiesTest::signerWhenListIsFull);
        DUE.sentence("12: OUT is its cert", EdgesOfAuthoritiesTest::signerOut);
        DUE.sentence("13: OUT is a signer's cert; BAD", EdgesOfAuthoritiesTest::certs);
        DUE.end("EdgesOfAuthoritiesTest");
    }

    private static int authority(StatusDesk desk, byte[] name, int secret) {
        Texts.feed(desk, name);
        return desk.authority(secret);
    }

    /** Authorities 0 and 1. */
    private static StatusDesk desk() {
        StatusDesk desk = new StatusDesk();
        authority(desk, ROOT, 12345);
        authority(desk, Texts.text("other"), 54321);
        return desk;
    }

    private static void fourAuthorities() {
        StatusDesk desk = new StatusDesk();
        for (int i = 0; i < 4; i++) {
            DUE.is("authority " + i, authority(desk, new byte[] {(byte) i}, 9), i);
            DUE.is("so many", desk.told(0), i + 1);
        }
        DUE.is("a fifth", authority(desk, new byte[] {4}, 9), FULL);
        DUE.is("of a name that is there", authority(desk, new byte[] {0}, 9), FULL);
        DUE.is("four", desk.told(0), 4);
        DUE.is("the fifth has no LIST", desk.issue(4, 1), BAD);
        DUE.is("the fourth has", desk.issue(3, 1), 1);
    }

    private static void names() {
        for (int n : new int[] {0, 17, 18, 100, 1500}) {
            StatusDesk desk = new StatusDesk();
            DUE.is("of " + n + " bytes", authority(desk, new byte[n], 9), BAD);
            DUE.is("none was made", desk.told(0), 0);
        }
        for (int n = 1; n <= 16; n++) {
            StatusDesk desk = new StatusDesk();
            byte[] name = new byte[n];
            name[n - 1] = -1;
            DUE.is("of " + n + " bytes", authority(desk, name, 9), 0);
            desk.want(0, 5);
            desk.ask();
            desk.take();
            DUE.is("all of them are it", desk.hash(), Texts.hash(Texts.ask(Texts.none(), Texts.id(name, Texts.key(9), 5))));
        }
    }

    private static void sameNames() {
        byte[] longest = Texts.text("sixteen bytes ab");
        byte[] otherEnd = Texts.text("sixteen bytes ac");
        byte[] otherFront = Texts.text("Sixteen bytes ab");
        StatusDesk desk = new StatusDesk();
        DUE.is("the first", authority(desk, longest, 9), 0);
        DUE.is("the same, another SECRET", authority(desk, longest, 10), FULL);
        DUE.is("another last byte", authority(desk, otherEnd, 9), 1);
        DUE.is("another first byte", authority(desk, otherFront, 9), 2);
        DUE.is("the same as the second", authority(desk, otherEnd, 9), FULL);
        DUE.is("the same as the third", authority(desk, otherFront, 9), FULL);
        DUE.is("one byte less", authority(desk, Texts.text("sixteen bytes a"), 9), 3);
        DUE.is("the key of the first is as it was", desk.key(0, 0), Texts.key(9));
        StatusDesk zeros = new StatusDesk();
        DUE.is("one byte 0", authority(zeros, new byte[1], 9), 0);
        DUE.is("two bytes 0", authority(zeros, new byte[2], 9), 1);
        zeros.feed('s', 1);
        zeros.signer(0, 5, 5, 0, 0, 1);
        DUE.is("a signer's name is not an authority's", authority(zeros, Texts.text("s"), 9), 2);
    }

    private static void authorityBadBeforeFull() {
        StatusDesk desk = desk();
        DUE.is("a name that is there, no SECRET", authority(desk, ROOT, 0), BAD);
        authority(desk, new byte[1], 9);
        authority(desk, new byte[2], 9);
        DUE.is("a fifth, no SECRET", authority(desk, new byte[3], LAST_SECRET + 1), BAD);
        DUE.is("a fifth, no name", authority(desk, Texts.none(), 9), BAD);
        DUE.is("a fifth, a longer name", authority(desk, new byte[17], 9), BAD);
        DUE.is("a fifth", authority(desk, new byte[3], 9), FULL);
    }

    private static void authorityReadsTape() {
        StatusDesk desk = new StatusDesk();
        authority(desk, ROOT, 9);
        DUE.is("made", desk.told(3), 0);
        authority(desk, ROOT, 9);
        DUE.is("that name", desk.told(3), 0);
        authority(desk, ROOT, 0);
        DUE.is("no SECRET", desk.told(3), 0);
        authority(desk, new byte[17], 9);
        DUE.is("no name", desk.told(3), 0);
        for (int i = 1; i < 5; i++) {
            authority(desk, new byte[i], 9);
        }
        DUE.is("a fifth", desk.told(3), 0);
    }

    private static void issueSerials() {
        StatusDesk desk = desk();
        DUE.is("-1", desk.issue(0, -1), BAD);
        DUE.is("the least int", desk.issue(0, Integer.MIN_VALUE), BAD);
        DUE.is("0", desk.issue(0, 0), 1);
        DUE.is("2^31 - 1", desk.issue(0, LAST_SERIAL), 2);
        DUE.is("2^31 - 2", desk.issue(0, LAST_SERIAL - 1), 3);
    }

    private static void issueNoAuthority() {
        StatusDesk desk = desk();
        for (int authority : NO_AUTHORITIES) {
            DUE.is("issue by " + authority, desk.issue(authority, 5), BAD);
        }
        DUE.is("by the last there is", desk.issue(1, 5), 1);
        DUE.is("the first has none of it", desk.issue(0, 6), 1);
    }

    private static void issueMost() {
        StatusDesk desk = desk();
        for (int i = 1; i <= 32; i++) {
            DUE.is("serial " + i, desk.issue(0, i), i);
        }
        DUE.is("a 33rd", desk.issue(0, 33), FULL);
        DUE.is("0", desk.issue(0, 0), FULL);
        DUE.is("one that is there", desk.issue(0, 32), FULL);
        DUE.is("BAD before FULL", desk.issue(0, -1), BAD);
        DUE.is("the 33rd is not ISSUED", desk.takeBack(0, 33, 5, 5), NONE);
        DUE.is("the 32nd is", desk.takeBack(0, 32, 5, 6), 1);
        DUE.is("to take back makes no room", desk.issue(0, 33), FULL);
        desk.lift(0, 32);
        DUE.is("nor to lift", desk.issue(0, 33), FULL);
        DUE.is("another's LIST has room", desk.issue(1, 33), 1);
    }

    private static void issueTwice() {
        StatusDesk desk = desk();
        desk.issue(0, 0);
        desk.issue(0, 7);
        desk.issue(0, LAST_SERIAL);
        for (int serial : new int[] {0, 7, LAST_SERIAL}) {
            DUE.is("again " + serial, desk.issue(0, serial), FULL);
        }
        desk.takeBack(0, 7, 5, 5);
        DUE.is("one taken back", desk.issue(0, 7), FULL);
        DUE.is("it stays so", desk.takeBack(0, 7, 5, 5), FULL);
        DUE.is("none was added", desk.issue(0, 8), 4);
        DUE.is("another's may be the same", desk.issue(1, 7), 1);
    }

    private static void takeBackBad() {
        StatusDesk desk = desk();
        desk.issue(0, 7);
        for (int authority : NO_AUTHORITIES) {
            DUE.is("by " + authority, desk.takeBack(authority, 7, 5, 5), BAD);
        }
        DUE.is("serial -1", desk.takeBack(0, -1, 5, 5), BAD);
        DUE.is("the least serial", desk.takeBack(0, Integer.MIN_VALUE, 5, 5), BAD);
        DUE.is("BAD before NONE, the TIME", desk.takeBack(0, 8, -1, 5), BAD);
        DUE.is("BAD before NONE, the reason", desk.takeBack(0, 8, 5, 11), BAD);
        DUE.is("it was not taken back", desk.takeBack(0, 7, 5, 5), 1);
        DUE.is("BAD before FULL, the TIME", desk.takeBack(0, 7, LAST + 1, 5), BAD);
        DUE.is("BAD before FULL, the reason", desk.takeBack(0, 7, 5, -1), BAD);
    }

    private static void takeBackTimes() {
        for (long time : new long[] {-1, LAST + 1, Long.MIN_VALUE, Long.MAX_VALUE}) {
            StatusDesk desk = desk();
            desk.issue(0, 7);
            DUE.is("at " + time, desk.takeBack(0, 7, time, 5), BAD);
            DUE.is("it was not taken back", desk.takeBack(0, 7, 5, 5), 1);
        }
        for (long time : new long[] {0, LAST}) {
            StatusDesk desk = desk();
            desk.issue(0, 7);
            DUE.is("at " + time, desk.takeBack(0, 7, time, 5), 1);
            DUE.is("it is taken back", desk.takeBack(0, 7, 5, 5), FULL);
        }
    }

    private static void takeBackReasons() {
        StatusDesk desk = desk();
        for (int reason = 0; reason <= 10; reason++) {
            desk.issue(0, reason);
            DUE.is("reason " + reason, desk.takeBack(0, reason, 5, reason), reason + 1);
        }
        desk.issue(0, 20);
        for (int reason : new int[] {-1, 11, 128, 255, 256, Integer.MIN_VALUE, Integer.MAX_VALUE}) {
            DUE.is("reason " + reason, desk.takeBack(0, 20, 5, reason), BAD);
        }
        DUE.is("it was not taken back", desk.takeBack(0, 20, 5, 5), 12);
    }

    private static void takeBackNone() {
        StatusDesk desk = desk();
        DUE.is("of an empty LIST", desk.takeBack(0, 0, 5, 5), NONE);
        desk.issue(0, 7);
        desk.issue(1, 8);
        DUE.is("another serial", desk.takeBack(0, 0, 5, 5), NONE);
        DUE.is("the last serial", desk.takeBack(0, LAST_SERIAL, 5, 5), NONE);
        DUE.is("on another's LIST", desk.takeBack(0, 8, 5, 5), NONE);
        DUE.is("it is not ISSUED by that", desk.issue(0, 8), 2);
    }

    private static void takeBackFull() {
        StatusDesk desk = desk();
        desk.issue(0, 7);
        desk.takeBack(0, 7, 1000, 5);
        DUE.is("the same again", desk.takeBack(0, 7, 1000, 5), FULL);
        DUE.is("an earlier TIME, held for a while", desk.takeBack(0, 7, 10, 6), FULL);
        DUE.is("the reason is as it was", desk.lift(0, 7), false);
        DUE.is("the TIME is as it was: not before", stateAt(desk, 999), 1);
        DUE.is("but then", stateAt(desk, 1000), 2);
        StatusDesk late = desk();
        late.issue(0, 7);
        late.takeBack(0, 7, LAST, 6);
        DUE.is("taken back in times to come", late.takeBack(0, 7, 0, 1), FULL);
        DUE.is("can be lifted", late.lift(0, 7), true);
        DUE.is("and taken back again", late.takeBack(0, 7, 0, 1), 1);
    }

    /** What the authority itself answers of its serial 7 at a TIME. */
    private static int stateAt(StatusDesk desk, long time) {
        desk.want(0, 7);
        desk.ask();
        desk.take();
        desk.answer(0, time, 0);
        desk.take();
        return desk.look(0, 7, time, 0, 0);
    }

    private static void takeBackCounts() {
        StatusDesk desk = desk();
        for (int i = 1; i <= 32; i++) {
            desk.issue(0, i);
        }
        for (int i = 1; i <= 32; i++) {
            DUE.is("so many", desk.takeBack(0, i, 5, 6), i);
        }
        desk.issue(1, 1);
        DUE.is("another has its own count", desk.takeBack(1, 1, 5, 6), 1);
        desk.lift(0, 1);
        desk.lift(0, 2);
        DUE.is("two were lifted", desk.takeBack(0, 1, 5, 6), 31);
        DUE.is("and both are back", desk.takeBack(0, 2, 5, 6), 32);
    }

    private static void liftReasons() {
        for (int reason = 0; reason <= 10; reason++) {
            StatusDesk desk = desk();
            desk.issue(0, 7);
            desk.takeBack(0, 7, 5, reason);
            DUE.is("reason " + reason, desk.lift(0, 7), reason == 6);
            DUE.is("it is so, or not any more", desk.takeBack(0, 7, 5, 5), reason == 6 ? 1 : FULL);
        }
    }

    private static void liftEnds() {
        StatusDesk desk = desk();
        desk.issue(0, 7);
        desk.takeBack(0, 7, 0, 6);
        DUE.is("taken back", stateAt(desk, 2000), 2);
        DUE.is("lifted", desk.lift(0, 7), true);
        DUE.is("good", stateAt(desk, 2000), 1);
        DUE.is("it is ISSUED still", desk.issue(0, 7), FULL);
        DUE.is("taken back for another reason", desk.takeBack(0, 7, 2000, 1), 1);
        DUE.is("that is not lifted", desk.lift(0, 7), false);
        DUE.is("good before", stateAt(desk, 1999), 1);
        DUE.is("taken back", stateAt(desk, 2000), 2);
        DUE.is("for that reason", desk.found(2), 1);
    }

    private static void liftFalse() {
        StatusDesk desk = desk();
        DUE.is("of an empty LIST", desk.lift(0, 0), false);
        desk.issue(0, 7);
        desk.issue(1, 7);
        DUE.is("not TAKEN BACK", desk.lift(0, 7), false);
        desk.takeBack(0, 7, 5, 6);
        for (int authority : NO_AUTHORITIES) {
            DUE.is("of " + authority, desk.lift(authority, 7), false);
        }
        DUE.is("of another", desk.lift(1, 7), false);
        for (int serial : new int[] {-1, 0, 6, 8, LAST_SERIAL, Integer.MIN_VALUE}) {
            DUE.is("serial " + serial, desk.lift(0, serial), false);
        }
        DUE.is("it is so still", desk.takeBack(0, 7, 5, 6), FULL);
        DUE.is("so", desk.lift(0, 7), true);
        DUE.is("and not again", desk.lift(0, 7), false);
    }

    private static int signer(StatusDesk desk, byte[] name, int authority, int secret, int serial, int flags) {
        Texts.feed(desk, name);
        return desk.signer(authority, secret, serial, 0, 100000, flags);
    }

    private static byte[] cert(byte[] name, int secret, int serial, long from, long to, int flags) {
        return Texts.signed(Texts.certInner(serial, ROOT, name, from, to, Texts.key(secret), flags), 12345);
    }

    private static void isOut(String call, StatusDesk desk, byte[] due) {
        DUE.is(call + ", size", desk.size(), due.length);
        DUE.is(call + ", bytes", Texts.hash(Texts.out(desk)), Texts.hash(due));
    }

    private static void signerNames() {
        for (int n : new int[] {0, 17, 1500}) {
            StatusDesk desk = desk();
            DUE.is("of " + n + " bytes", signer(desk, new byte[n], 0, 777, 50, 1), BAD);
            DUE.is("the TAPE is read", desk.told(3), 0);
            DUE.is("none was made", desk.told(1), 0);
        }
        for (int n = 1; n <= 16; n++) {
            StatusDesk desk = desk();
            byte[] name = new byte[n];
            name[0] = -1;
            DUE.is("of " + n + " bytes", signer(desk, name, 0, 777, 50, 1), 0);
            DUE.is("the TAPE is read", desk.told(3), 0);
            isOut("of " + n + " bytes", desk, cert(name, 777, 50, 0, 100000, 1));
        }
        StatusDesk desk = desk();
        DUE.is("its authority's name", signer(desk, ROOT, 0, 777, 50, 1), 0);
        DUE.is("and again", signer(desk, ROOT, 0, 777, 50, 1), 1);
    }

    private static void isRefused(String call, StatusDesk desk, int got) {
        DUE.is(call, got, BAD);
        DUE.is(call + ": the TAPE is read", desk.told(3), 0);
        DUE.is(call + ": none was made", desk.told(1), 0);
        DUE.is(call + ": OUT is as it was", desk.size(), 0);
    }

    private static void signerNumbers() {
        byte[] name = Texts.text("sig");
        StatusDesk desk = desk();
        for (int authority : NO_AUTHORITIES) {
            isRefused("authority " + authority, desk, signer(desk, name, authority, 777, 50, 1));
        }
        for (int secret : new int[] {0, -1, LAST_SECRET + 1, Integer.MIN_VALUE, Integer.MAX_VALUE}) {
            isRefused("SECRET " + secret, desk, signer(desk, name, 0, secret, 50, 1));
        }
        for (int serial : new int[] {-1, Integer.MIN_VALUE}) {
            isRefused("serial " + serial, desk, signer(desk, name, 0, 777, serial, 1));
        }
        for (int flags : new int[] {-1, 4, 5, 8, Integer.MIN_VALUE, Integer.MAX_VALUE}) {
            isRefused("flags " + flags, desk, signer(desk, name, 0, 777, 50, flags));
        }
        for (long time : new long[] {-1, LAST + 1, Long.MIN_VALUE, Long.MAX_VALUE}) {
            Texts.feed(desk, name);
            isRefused("from " + time, desk, desk.signer(0, 777, 50, time, 5, 1));
            Texts.feed(desk, name);
            isRefused("to " + time, desk, desk.signer(0, 777, 50, 5, time, 1));
        }
        DUE.is("no serial was ISSUED", desk.issue(0, 50), 1);
    }

    private static void signerTimes() {
        byte[] name = Texts.text("sig");
        long[][] times = {{0, 0}, {0, LAST}, {LAST, LAST}, {LAST, 0}, {5, 4}};
        StatusDesk desk = desk();
        for (int i = 0; i < times.length; i++) {
            Texts.feed(desk, name);
            DUE.is("from " + times[i][0] + " to " + times[i][1], desk.signer(0, 777, 50, times[i][0], times[i][1], 1), i);
            desk.take();
            DUE.is("in its cert", desk.hash(), Texts.hash(cert(name, 777, 50, times[i][0], times[i][1], 1)));
            desk.cut(0);
        }
    }

    private static void signerFlags() {
        byte[] name = Texts.text("sig");
        for (int flags = 0; flags <= 3; flags++) {
            StatusDesk desk = desk();
            DUE.is("flags " + flags, signer(desk, name, 0, 777, 50, flags), 0);
            isOut("flags " + flags, desk, cert(name, 777, 50, 0, 100000, flags));
        }
    }

    private static void signerSerials() {
        byte[] name = Texts.text("sig");
        for (int serial : new int[] {0, 127, 128, 255, 256, 32767, 32768, 8388607, 8388608, LAST_SERIAL}) {
            StatusDesk desk = desk();
            DUE.is("serial " + serial, signer(desk, name, 0, 777, serial, 1), 0);
            isOut("serial " + serial, desk, cert(name, 777, serial, 0, 100000, 1));
            DUE.is("it is ISSUED", desk.issue(0, serial), FULL);
            DUE.is("by its authority alone", desk.issue(1, serial), 1);
            DUE.is("a second signer of it", signer(desk, name, 0, 778, serial, 1), 1);
            DUE.is("it is not ISSUED twice", desk.issue(0, 5), 2);
        }
        StatusDesk desk = desk();
        desk.issue(0, 7);
        desk.takeBack(0, 7, 5, 5);
        DUE.is("one that is TAKEN BACK", signer(desk, name, 0, 777, 7, 1), 0);
        DUE.is("stays so", desk.takeBack(0, 7, 5, 5), FULL);
    }

    private static void eightSigners() {
        byte[] name = Texts.text("sig");
        StatusDesk desk = desk();
        for (int i = 0; i < 8; i++) {
            DUE.is("signer " + i, signer(desk, name, i % 2, 777, i, 1), i);
        }
        int size = desk.size();
        DUE.is("a ninth", signer(desk, Texts.text("a longer one"), 0, 778, 50, 1), FULL);
        DUE.is("the TAPE is read", desk.told(3), 0);
        DUE.is("OUT is as it was", desk.size(), size);
        DUE.is("of a serial that is ISSUED", signer(desk, name, 0, 778, 0, 1), FULL);
        DUE.is("of the other", signer(desk, name, 1, 778, 1, 1), FULL);
        DUE.is("BAD before FULL", signer(desk, name, 0, 778, 50, 4), BAD);
        DUE.is("no name, before FULL", signer(desk, Texts.none(), 0, 778, 50, 1), BAD);
        DUE.is("eight", desk.told(1), 8);
        DUE.is("the ninth's serial is not ISSUED", desk.issue(0, 50), 5);
    }

    private static void signerWhenListIsFull() {
        byte[] name = Texts.text("sig");
        StatusDesk desk = desk();
        for (int i = 1; i <= 31; i++) {
            desk.issue(0, i);
        }
        DUE.is("the 32nd serial", signer(desk, name, 0, 777, 32, 1), 0);
        int size = desk.size();
        DUE.is("a 33rd", signer(desk, Texts.text("a longer one"), 0, 777, 33, 1), FULL);
        DUE.is("the TAPE is read", desk.told(3), 0);
        DUE.is("OUT is as it was", desk.size(), size);
        DUE.is("one signer", desk.told(1), 1);
        DUE.is("BAD before FULL", signer(desk, name, 0, 0, 33, 1), BAD);
        DUE.is("the first of the 32", signer(desk, name, 0, 777, 1, 1), 1);
        DUE.is("the last of the 32", signer(desk, name, 0, 777, 32, 1), 2);
        DUE.is("of another authority", signer(desk, name, 1, 777, 33, 1), 3);
    }

    private static void signerOut() {
        byte[] name = Texts.text("sixteen bytes ab");
        StatusDesk desk = new StatusDesk();
        Texts.feed(desk, name);
        desk.authority(LAST_SECRET);
        Texts.feed(desk, name);
        desk.signer(0, LAST_SECRET - 1, LAST_SERIAL, LAST, LAST, 3);
        byte[] inner = Texts.certInner(LAST_SERIAL, name, name, LAST, LAST, Texts.key(LAST_SECRET - 1), 3);
        isOut("the longest", desk, Texts.signed(inner, LAST_SECRET));
        Texts.feed(desk, Texts.text("s"));
        desk.signer(0, 1, 0, 0, 0, 0);
        byte[] least = Texts.certInner(0, name, Texts.text("s"), 0, 0, 4, 0);
        isOut("a shorter behind it", desk, Texts.signed(least, LAST_SECRET));
    }

    private static void certs() {
        StatusDesk desk = desk();
        DUE.is("0 of none", desk.cert(0), BAD);
        for (int k = 0; k < 8; k++) {
            DUE.is("signer " + k + ", not yet", desk.cert(k), BAD);
            signer(desk, new byte[k + 1], 0, 777 + k, k, k % 4);
        }
        int size = desk.size();
        for (int k : new int[] {-1, 8, 9, Integer.MIN_VALUE, Integer.MAX_VALUE}) {
            DUE.is("signer " + k, desk.cert(k), BAD);
            DUE.is("OUT is as it was", desk.size(), size);
        }
        for (int k = 7; k >= 0; k--) {
            byte[] due = cert(new byte[k + 1], 777 + k, k, 0, 100000, k % 4);
            DUE.is("signer " + k, desk.cert(k), due.length);
            desk.take();
            DUE.is("its bytes", desk.hash(), Texts.hash(due));
        }
    }
}
