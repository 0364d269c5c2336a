import java.util.ArrayList;
import java.util.Arrays;
import java.util.List;
import java.util.Random;

/** Random runs of at most 512 calls, each answer compared with the model's; the seeds are fixed. */
public final class RandomRunsTest {
    private static final int RUNS = 400;
    private static final int CALLS = 512;
    private static final long LAST = 3155759999L;
    private static final String[] NAMES = {"a", "root", "sixteen-bytes-ab", "b", "other"};
    private static final int[] SECRETS = {1, 2, 777, 12345, 1073741788};
    private static final int[] SERIALS = {0, 1, 7, 127, 128, 255, 256, 65535, 8388608, 2147483647};

    private final Due due = new Due();
    private final int[] verdicts = new int[40];
    private final int[] statuses = new int[11];
    private Random random;
    private StatusDesk desk;
    private Model model;
    private int run;
    private int calls;
    // What the desk knows and what was asked last, so that most looks get far.
    private final List<byte[]> names = new ArrayList<>();
    private final List<Integer> secrets = new ArrayList<>();
    private int focus;
    private int focusSerial;

    public static void main(String[] args) {
        RandomRunsTest test = new RandomRunsTest();
        for (int i = 0; i < RUNS; i++) {
            test.run(i);
        }
        test.everyVerdictWasSeen();
        System.out.println("verdicts " + Arrays.toString(test.verdicts) + ", statuses " + Arrays.toString(test.statuses));
        test.due.end("RandomRunsTest");
    }

    private void everyVerdictWasSeen() {
        for (int verdict = 21; verdict <= 33; verdict++) {
            due.is("verdict " + verdict + " seen", verdicts[verdict] > 20, true);
        }
        for (int verdict = 1; verdict <= 3; verdict++) {
            due.is("verdict " + verdict + " seen", verdicts[verdict] > 20, true);
        }
        for (int status : new int[] {0, 1, 6}) {
            due.is("status " + status + " seen", statuses[status] > 20, true);
        }
    }

    private void run(int number) {
        run = number;
        random = new Random(number);
        desk = new StatusDesk();
        model = new Model();
        calls = 0;
        names.clear();
        secrets.clear();
        if (number % 8 != 0) {
            begin();
        }
        while (calls < CALLS - 120) {
            step();
        }
        for (int i = -1; i < 9; i++) {
            is("told " + i, desk.told(i), model.told(i));
        }
        for (int i = -1; i <= desk.size(); i += 1 + random.nextInt(16)) {
            is("out " + i, desk.out(i), model.out(i));
        }
    }

    private void is(String call, long got, long want) {
        calls++;
        due.is("run " + run + ", call " + calls + ": " + call, got, want);
    }

    private boolean chance(int percent) {
        return random.nextInt(100) < percent;
    }

    private int of(int[] all) {
        return all[random.nextInt(all.length)];
    }

    private int anySecret() {
        return chance(4) ? random.nextInt() : chance(20) ? 1 + random.nextInt(1073741788) : of(SECRETS);
    }

    private int anySerial() {
        return chance(3) ? random.nextInt() : chance(30) ? 7 : of(SERIALS);
    }

    private int anyAuthority() {
        return chance(3) ? random.nextInt(9) - 3 : random.nextInt(3);
    }

    private long anyTime() {
        if (chance(3)) {
            return new long[] {-1, LAST + 1, Long.MIN_VALUE, Long.MAX_VALUE, LAST, 0}[random.nextInt(6)];
        }
        return chance(5) ? (long) (random.nextDouble() * LAST) : 1000 + random.nextInt(60);
    }

    private int anySpan() {
        return chance(3) ? new int[] {-1, 1000000000, 1000000001, Integer.MIN_VALUE}[random.nextInt(4)] : random.nextInt(30);
    }

    private void feed(byte[] bytes) {
        for (int at = 0; at < bytes.length; at += 8) {
            int n = Math.min(8, bytes.length - at);
            long row = Texts.lowestFirst(bytes, at, n);
            is("feed " + row + " " + n, desk.feed(row, n), model.feed(row, n));
        }
    }

    private void name() {
        if (chance(95)) {
            feed(Texts.text(NAMES[random.nextInt(NAMES.length)]));
        } else {
            feed(new byte[random.nextInt(20)]);
        }
    }

    private void begin() {
        for (int i = 0; i < 2 + random.nextInt(2); i++) {
            authority();
        }
        for (int i = 0; i < 4; i++) {
            issue();
            signer();
        }
    }

    private void authority() {
        byte[] name = anyName();
        if (chance(95)) {
            feed(name);
        } else {
            name = new byte[random.nextInt(20)];
            feed(name);
        }
        int secret = anySecret();
        int fed = desk.told(3);
        int number = desk.authority(secret);
        is("authority " + secret, number, model.authority(secret));
        if (number >= 0 && fed == name.length) {
            names.add(name);
            secrets.add(secret);
        }
    }

    private void issue() {
        int authority = anyAuthority();
        int serial = anySerial();
        is("issue " + authority + " " + serial, desk.issue(authority, serial), model.issue(authority, serial));
    }

    private void takeBack() {
        int authority = anyAuthority();
        int serial = anySerial();
        long time = chance(50) ? 900 : anyTime();
        if (chance(60)) {
            is("issue " + authority + " " + serial, desk.issue(authority, serial), model.issue(authority, serial));
        }
        int reason = chance(40) ? 6 : random.nextInt(13) - 1;
        is("takeBack " + authority + " " + serial + " " + time + " " + reason,
                desk.takeBack(authority, serial, time, reason), model.takeBack(authority, serial, time, reason));
    }

    private void lift() {
        int authority = anyAuthority();
        int serial = anySerial();
        is("lift " + authority + " " + serial, desk.lift(authority, serial) ? 1 : 0, model.lift(authority, serial) ? 1 : 0);
    }

    private void signer() {
        name();
        int authority = anyAuthority();
        int secret = anySecret();
        int serial = anySerial();
        long from = chance(80) ? 0 : anyTime();
        long to = chance(80) ? 5000 : anyTime();
        int flags = chance(70) ? 1 + 2 * random.nextInt(2) : random.nextInt(6) - 1;
        is("signer " + authority + " " + secret + " " + serial + " " + from + " " + to + " " + flags,
                desk.signer(authority, secret, serial, from, to, flags),
                model.signer(authority, secret, serial, from, to, flags));
        outIsSame();
    }

    private void outIsSame() {
        is("size", desk.size(), model.size());
        int i = random.nextInt(desk.size() + 1);
        is("out " + i, desk.out(i), model.out(i));
    }

    private void take() {
        is("take", desk.take(), model.take());
        is("hash", desk.hash(), model.hash());
    }

    private void spoil() {
        int i = random.nextInt(Math.max(1, desk.told(3) + 1));
        int mask = chance(50) ? 1 << random.nextInt(8) : random.nextInt();
        is("spoil " + i + " " + mask, desk.spoil(i, mask), model.spoil(i, mask));
    }

    private void cut() {
        int n = random.nextInt(desk.told(3) + 3) - 1;
        is("cut " + n, desk.cut(n), model.cut(n));
    }

    private void check() {
        for (int what = -1; what < 4; what++) {
            is("check " + what, desk.check(what), model.check(what));
        }
    }

    private void wantAndAsk() {
        for (int i = random.nextInt(chance(10) ? 11 : 4); i >= 0; i--) {
            int authority = anyAuthority();
            int serial = anySerial();
            focus = i == 0 || chance(20) ? authority : focus;
            focusSerial = focus == authority ? serial : focusSerial;
            is("want " + authority + " " + serial, desk.want(authority, serial), model.want(authority, serial));
        }
        if (chance(30)) {
            int n = chance(60) ? 0 : random.nextInt(11) - 1;
            long bytes = chance(50) ? 0x1122334455667788L : random.nextLong();
            is("nonce " + bytes + " " + n, desk.nonce(bytes, n), model.nonce(bytes, n));
        }
        is("ask", desk.ask(), model.ask());
        outIsSame();
    }

    private void answer() {
        int responder = chance(50) ? focus : chance(70) ? 4 + random.nextInt(4) : random.nextInt(16) - 2;
        long time = anyTime();
        long life = chance(30) ? 0 : chance(5) ? LAST - time + random.nextInt(2) : chance(3) ? random.nextLong() : random.nextInt(40);
        int status = desk.answer(responder, time, life);
        is("answer " + responder + " " + time + " " + life, status, model.answer(responder, time, life));
        if (status >= 0) {
            statuses[status]++;
        }
        outIsSame();
    }

    private void look() {
        int authority = chance(95) ? focus : anyAuthority();
        int serial = chance(90) ? focusSerial : anySerial();
        long time = anyTime();
        int slack = anySpan();
        int age = anySpan();
        int verdict = desk.look(authority, serial, time, slack, age);
        is("look " + authority + " " + serial + " " + time + " " + slack + " " + age, verdict,
                model.look(authority, serial, time, slack, age));
        if (verdict >= 0) {
            verdicts[verdict]++;
        }
        is("passes true", desk.passes(true) ? 1 : 0, model.passes(true) ? 1 : 0);
        is("passes false", desk.passes(false) ? 1 : 0, model.passes(false) ? 1 : 0);
        int what = random.nextInt(7) - 1;
        is("found " + what, desk.found(what), model.found(what));
        if (chance(60)) {
            is("hold", desk.hold(), model.hold());
        }
        held();
    }

    private void held() {
        int authority = anyAuthority();
        int serial = anySerial();
        long time = anyTime();
        is("held " + authority + " " + serial + " " + time, desk.held(authority, serial, time),
                model.held(authority, serial, time));
    }

    private byte[] anyName() {
        return Texts.text(NAMES[random.nextInt(NAMES.length)]);
    }

    /** An answer made by hand, near to right, and wrong in any way that a look should tell. */
    private byte[] madeAnswer() {
        int known = names.isEmpty() ? -1 : random.nextInt(names.size());
        byte[] name = known < 0 ? anyName() : names.get(known);
        int secret = known < 0 ? of(SECRETS) : secrets.get(known);
        int signer = of(SECRETS);
        focus = known;
        focusSerial = of(SERIALS);
        byte[] certName = anyName();
        byte[] inner = Texts.certInner(chance(60) ? 7 : of(SERIALS), mostly(name), certName, chance(80) ? 0 : 1030,
                chance(80) ? 5000 : 1030, Texts.key(signer), chance(70) ? 1 : random.nextInt(4));
        byte[] cert = Texts.signed(inner, chance(90) ? secret : of(SECRETS));
        boolean own = chance(40);
        byte[] teller = chance(50) ? Texts.byName(mostly(own ? name : certName))
                : Texts.byKey(Texts.key(own ? secret : signer));
        byte[] body = madeBody(teller, Texts.id(name, Texts.key(secret), focusSerial));
        byte[] signature = Texts.sign(own ? secret : signer, body);
        return Texts.answer(body, signature, chance(own ? 30 : 90) ? cert : Texts.none());
    }

    private byte[] mostly(byte[] name) {
        return chance(90) ? name : anyName();
    }

    private byte[] madeBody(byte[] teller, byte[] id) {
        long time = 1000 + random.nextInt(60);
        long next = chance(50) ? -1 : 990 + random.nextInt(80);
        int state = random.nextInt(3);
        byte[] told = state == 0 ? Texts.good()
                : state == 1 ? Texts.takenBack(time, random.nextInt(11)) : Texts.notKnown();
        byte[] nonce = chance(50) ? Texts.none() : Texts.text("nonce of sixteen");
        byte[] single = Texts.single(id, told, time, next);
        return chance(80) ? Texts.body(teller, time, nonce, single)
                : Texts.body(teller, time, nonce, single, Texts.single(id, Texts.good(), time + 1, next));
    }

    private void tamper() {
        if (chance(8)) {
            spoil();
        }
        if (chance(3)) {
            cut();
        }
        if (chance(30)) {
            check();
        }
    }

    private void step() {
        switch (random.nextInt(14)) {
            case 0: authority(); break;
            case 1: issue(); break;
            case 2: takeBack(); break;
            case 3: takeBack(); lift(); break;
            case 4: if (chance(30)) { signer(); } break;
            case 5: cutAll(); feed(chance(5) ? new byte[random.nextInt(30)] : madeAnswer()); tamper(); look(); break;
            case 6: int k = random.nextInt(11) - 1; is("cert " + k, desk.cert(k), model.cert(k)); outIsSame(); break;
            case 7: is("key 0", desk.key(0, anyOne()), model.key(0, last)); break;
            case 8: is("key 1", desk.key(1, anyOne()), model.key(1, last)); break;
            case 9: long time = anyTime(); int i = random.nextInt(17) - 1; is("clock " + time + " " + i, desk.clock(time, i), model.clock(time, i)); break;
            case 10: int n = random.nextInt(11) - 1; long row = random.nextLong(); is("feed", desk.feed(row, n), model.feed(row, n)); check(); break;
            default: wantAndAsk(); take(); tamper(); answer(); take(); tamper(); look(); break;
        }
    }

    private void cutAll() {
        if (chance(95)) {
            is("cut 0", desk.cut(0), model.cut(0));
        }
    }

    private int last;

    private int anyOne() {
        last = random.nextInt(11) - 1;
        return last;
    }
}
