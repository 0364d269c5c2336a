import java.util.ArrayList;
import java.util.Arrays;
import java.util.LinkedHashMap;
import java.util.List;
import java.util.Map;

/** The whole document once more, by the Java library and without thrift: what each call should answer. */
final class Model {
    private static final long LAST = 3155759999L;
    private static final int NONE = -1;
    private static final int BAD = -2;
    private static final int FULL = -3;

    private static final class Authority {
        byte[] name;
        int secret;
        long key;
        final Map<Integer, long[]> issued = new LinkedHashMap<>();

        int takenBack() {
            return (int) issued.values().stream().filter(taken -> taken.length > 0).count();
        }

        boolean isTakenBack(int serial, long time) {
            long[] taken = issued.get(serial);
            return taken != null && taken.length > 0 && taken[0] <= time;
        }

        boolean hasId(Grammar.Node id) {
            return Arrays.equals(id.part(0).has, Texts.hashBytes(name))
                    && Arrays.equals(id.part(1).has, Texts.keyHash(key));
        }
    }

    private static final class Signer {
        Authority by;
        int secret;
        long key;
        byte[] cert;
    }

    private static final class Find {
        int authority;
        int serial;
        int state;
        long since = NONE;
        long reason = NONE;
        long from;
        long next;
    }

    private byte[] tape = {};
    private byte[] out = {};
    private byte[] nonce = {};
    private final List<Authority> authorities = new ArrayList<>();
    private final List<Signer> signers = new ArrayList<>();
    private final List<byte[]> wanted = new ArrayList<>();
    private final List<Find> held = new ArrayList<>();
    private Find find;
    private boolean canHold;
    private int verdict;
    private int right;
    private int others;
    private int looks;

    private static boolean isTime(long time) {
        return 0 <= time && time <= LAST;
    }

    private boolean hasAuthority(int i) {
        return 0 <= i && i < authorities.size();
    }

    private boolean hasSigner(int i) {
        return 0 <= i && i < signers.size();
    }

    private byte[] emptyTape() {
        byte[] was = tape;
        tape = new byte[0];
        return was;
    }

    private static byte[] lowest(long row, int n) {
        byte[] bytes = new byte[n];
        for (int i = 0; i < n; i++) {
            bytes[i] = (byte) (row >> (8 * i));
        }
        return bytes;
    }

    int feed(long row, int n) {
        if (n < 1 || n > 8) {
            return BAD;
        }
        if (tape.length + n > 1500) {
            return FULL;
        }
        tape = Texts.join(tape, lowest(row, n));
        return tape.length;
    }

    int take() {
        tape = out.clone();
        return tape.length;
    }

    int spoil(int i, int mask) {
        if (i < 0 || i >= tape.length) {
            return BAD;
        }
        tape[i] = (byte) (tape[i] ^ mask);
        return tape[i] & 255;
    }

    int cut(int n) {
        int had = tape.length;
        if (n < 0 || n > had) {
            return BAD;
        }
        tape = Arrays.copyOf(tape, n);
        return had;
    }

    int size() {
        return out.length;
    }

    int out(int i) {
        return i < 0 || i >= out.length ? NONE : out[i] & 255;
    }

    int authority(int secret) {
        byte[] name = emptyTape();
        if (name.length < 1 || name.length > 16 || secret < 1 || secret > 1073741788) {
            return BAD;
        }
        if (authorities.size() == 4 || authorities.stream().anyMatch(a -> Arrays.equals(a.name, name))) {
            return FULL;
        }
        Authority made = new Authority();
        made.name = name;
        made.secret = secret;
        made.key = Texts.key(secret);
        authorities.add(made);
        return authorities.size() - 1;
    }

    int issue(int authority, int serial) {
        if (!hasAuthority(authority) || serial < 0) {
            return BAD;
        }
        Map<Integer, long[]> issued = authorities.get(authority).issued;
        if (issued.size() == 32 || issued.containsKey(serial)) {
            return FULL;
        }
        issued.put(serial, new long[0]);
        return issued.size();
    }

    int takeBack(int authority, int serial, long time, int reason) {
        if (!hasAuthority(authority) || serial < 0 || !isTime(time) || reason < 0 || reason > 10) {
            return BAD;
        }
        Authority by = authorities.get(authority);
        if (!by.issued.containsKey(serial)) {
            return NONE;
        }
        if (by.issued.get(serial).length > 0) {
            return FULL;
        }
        by.issued.put(serial, new long[] {time, reason});
        return by.takenBack();
    }

    boolean lift(int authority, int serial) {
        if (!hasAuthority(authority)) {
            return false;
        }
        long[] taken = authorities.get(authority).issued.get(serial);
        if (taken == null || taken.length == 0 || taken[1] != 6) {
            return false;
        }
        authorities.get(authority).issued.put(serial, new long[0]);
        return true;
    }

    int signer(int authority, int secret, int serial, long from, long to, int flags) {
        byte[] name = emptyTape();
        if (!hasAuthority(authority) || name.length < 1 || name.length > 16 || secret < 1 || secret > 1073741788
                || serial < 0 || !isTime(from) || !isTime(to) || flags < 0 || flags > 3) {
            return BAD;
        }
        Authority by = authorities.get(authority);
        if (signers.size() == 8 || by.issued.size() == 32 && !by.issued.containsKey(serial)) {
            return FULL;
        }
        by.issued.putIfAbsent(serial, new long[0]);
        Signer made = new Signer();
        made.by = by;
        made.secret = secret;
        made.key = Texts.key(secret);
        made.cert = Texts.signed(Texts.certInner(serial, by.name, name, from, to, made.key, flags), by.secret);
        signers.add(made);
        out = made.cert;
        return signers.size() - 1;
    }

    int cert(int signer) {
        if (!hasSigner(signer)) {
            return BAD;
        }
        out = signers.get(signer).cert;
        return out.length;
    }

    int want(int authority, int serial) {
        if (!hasAuthority(authority) || serial < 0) {
            return BAD;
        }
        if (wanted.size() == 8) {
            return FULL;
        }
        wanted.add(Texts.id(authorities.get(authority).name, authorities.get(authority).key, serial));
        return wanted.size();
    }

    int nonce(long bytes, int n) {
        if (n < 0 || n > 8) {
            return BAD;
        }
        nonce = lowest(bytes, n);
        return n;
    }

    int ask() {
        if (wanted.isEmpty()) {
            return NONE;
        }
        out = Texts.ask(nonce, wanted.toArray(new byte[0][]));
        wanted.clear();
        return out.length;
    }

    int answer(int responder, long time, long life) {
        byte[] text = emptyTape();
        boolean isSigner = responder >= 4 && hasSigner(responder - 4);
        if (!isSigner && !hasAuthority(responder) || !isTime(time) || life < 0 || life > LAST
                || !isTime(time + life)) {
            return BAD;
        }
        Signer signer = isSigner ? signers.get(responder - 4) : null;
        Authority by = isSigner ? signer.by : authorities.get(responder);
        int status = 1;
        try {
            Grammar.Node ask = Grammar.read(1, text);
            status = ask.part(0).parts.stream().anyMatch(by::hasId) ? 0 : 6;
            if (status == 0) {
                out = answerTo(ask, text, by, signer, time, life == 0 ? -1 : time + life);
            }
        } catch (Grammar.Fault fault) {
            status = 1;
        }
        if (status == 0) {
            right++;
        } else {
            others++;
            out = Texts.status(status);
        }
        return status;
    }

    private static byte[] answerTo(Grammar.Node ask, byte[] text, Authority by, Signer signer, long time, long next) {
        List<byte[]> singles = new ArrayList<>();
        for (Grammar.Node id : ask.part(0).parts) {
            int serial = (int) id.part(2).number();
            byte[] state = Texts.notKnown();
            if (by.hasId(id) && by.issued.containsKey(serial)) {
                long[] taken = by.issued.get(serial);
                state = by.isTakenBack(serial, time) ? Texts.takenBack(taken[0], (int) taken[1]) : Texts.good();
            }
            singles.add(Texts.single(Arrays.copyOfRange(text, id.place, id.end), state, time, next));
        }
        byte[] asked = ask.parts.size() > 1 ? ask.part(1).part(0).has : new byte[0];
        byte[] teller = signer == null ? Texts.byName(by.name) : Texts.byKey(signer.key);
        byte[] body = Texts.body(teller, time, asked, singles.toArray(new byte[0][]));
        byte[] signature = Texts.sign(signer == null ? by.secret : signer.secret, body);
        return Texts.answer(body, signature, signer == null ? new byte[0] : signer.cert);
    }

    int look(int authority, int serial, long time, int slack, int age) {
        byte[] text = emptyTape();
        if (!hasAuthority(authority) || serial < 0 || !isTime(time) || slack < 0 || slack > 1000000000
                || age < 0 || age > 1000000000) {
            return BAD;
        }
        looks++;
        try {
            verdict = verdict(Grammar.read(2, text), text, authority, serial, time, slack, age);
        } catch (Grammar.Fault fault) {
            verdict = 21;
        }
        return verdict;
    }

    private int verdict(Grammar.Node answer, byte[] text, int authority, int serial, long time, int slack, int age) {
        if (answer.part(0).has[0] != 0) {
            return 22;
        }
        Authority by = authorities.get(authority);
        Grammar.Node signed = answer.part(1).part(0);
        Grammar.Node body = signed.part(0);
        Grammar.Node cert = signed.parts.size() > 2 ? signed.part(2).part(0) : null;
        boolean own = isTold(body.part(0), by.name, by.key);
        if (!own) {
            int wrong = certVerdict(cert, body.part(0), text, by, time);
            if (wrong != 0) {
                return wrong;
            }
        }
        long key = own ? by.key : cert.part(0).part(5).number();
        if (!Texts.isRight(signed.part(1).signature(), key, Arrays.copyOfRange(text, body.place, body.end))) {
            return 28;
        }
        byte[] told = body.parts.size() > 3 ? body.part(3).part(0).has : new byte[0];
        if (nonce.length > 0 && !Arrays.equals(nonce, told)) {
            return 29;
        }
        for (Grammar.Node single : body.part(2).parts) {
            if (by.hasId(single.part(0)) && single.part(0).part(2).number() == serial) {
                return singleVerdict(single, authority, serial, time, slack, age);
            }
        }
        return 30;
    }

    private static boolean isTold(Grammar.Node teller, byte[] name, long key) {
        return Arrays.equals(teller.part(0).has, teller.sort == 161 ? name : Texts.keyHash(key));
    }

    private static int certVerdict(Grammar.Node cert, Grammar.Node teller, byte[] text, Authority by, long time) {
        if (cert == null) {
            return 23;
        }
        Grammar.Node inner = cert.part(0);
        if (!isTold(teller, inner.part(2).has, inner.part(5).number())) {
            return 23;
        }
        byte[] signed = Arrays.copyOfRange(text, inner.place, inner.end);
        if (!Arrays.equals(inner.part(1).has, by.name) || !Texts.isRight(cert.part(1).signature(), by.key, signed)) {
            return 24;
        }
        long flags = inner.part(6).number();
        if (flags % 2 == 0) {
            return 25;
        }
        if (time < inner.part(3).seconds() || time > inner.part(4).seconds()) {
            return 26;
        }
        return flags < 2 && by.isTakenBack((int) inner.part(0).number(), time) ? 27 : 0;
    }

    private int singleVerdict(Grammar.Node single, int authority, int serial, long time, int slack, int age) {
        long from = single.part(2).seconds();
        boolean hasNext = single.parts.size() > 3;
        long next = hasNext ? single.part(3).part(0).seconds() : from + age;
        if (from > time + slack) {
            return 31;
        }
        if (hasNext && (next < time - slack || next < from)) {
            return 32;
        }
        if (!hasNext && from < time - age) {
            return 33;
        }
        Grammar.Node state = single.part(1);
        find = new Find();
        find.authority = authority;
        find.serial = serial;
        find.state = state.sort == 128 ? 1 : state.sort == 161 ? 2 : 3;
        if (find.state == 2) {
            find.since = state.part(0).seconds();
            find.reason = state.part(1).number();
        }
        find.from = from;
        find.next = next;
        canHold = true;
        return find.state;
    }

    boolean passes(boolean hard) {
        return hard ? verdict == 1 : verdict != 0 && verdict != 2 && verdict != 22 && !(24 <= verdict && verdict <= 28);
    }

    long found(int what) {
        if (what < 0 || what > 4) {
            return BAD;
        }
        return find == null ? NONE : new long[] {find.state, find.since, find.reason, find.from, find.next}[what];
    }

    int hold() {
        if (!canHold) {
            return NONE;
        }
        canHold = false;
        if (held.size() == 16) {
            held.remove(0);
        }
        held.add(find);
        return held.size();
    }

    int held(int authority, int serial, long time) {
        if (!hasAuthority(authority) || serial < 0 || !isTime(time)) {
            return BAD;
        }
        int state = 0;
        for (Find one : held) {
            if (one.authority == authority && one.serial == serial) {
                state = time <= one.next ? one.state : 0;
            }
        }
        return state;
    }

    int check(int what) {
        return what < 0 || what > 2 ? BAD : Grammar.check(what, tape);
    }

    int clock(long time, int i) {
        return !isTime(time) || i < 0 || i > 14 ? BAD : Texts.stamp(time).charAt(i);
    }

    long hash() {
        return Texts.hash(tape);
    }

    int key(int what, int k) {
        if (what == 0 && hasAuthority(k)) {
            return (int) authorities.get(k).key;
        }
        return what == 1 && hasSigner(k) ? (int) signers.get(k).key : BAD;
    }

    int told(int what) {
        int[] all = {authorities.size(), signers.size(), wanted.size(), tape.length, held.size(), right, others, looks};
        return what < 0 || what >= all.length ? BAD : all[what];
    }
}
