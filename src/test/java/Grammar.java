import java.math.BigInteger;
import java.time.LocalDateTime;
import java.time.format.DateTimeFormatter;
import java.time.format.DateTimeParseException;
import java.time.format.ResolverStyle;
import java.time.temporal.ChronoUnit;
import java.util.ArrayList;
import java.util.Arrays;
import java.util.List;
import java.util.function.Predicate;

/** The document's texts as rules that read a tree, apart from how the class reads them. */
final class Grammar {
    /** A text is at fault at this place. */
    static final class Fault extends RuntimeException {
        private static final long serialVersionUID = 1L;
        final int place;

        Fault(int place) {
            super("place " + place, null, false, false);
            this.place = place;
        }
    }

    static final class Node {
        int sort;
        int place;
        int end;
        byte[] has;
        final List<Node> parts = new ArrayList<>();

        int items() {
            int n = 1;
            for (Node part : parts) {
                n += part.items();
            }
            return n;
        }

        Node part(int i) {
            return parts.get(i);
        }

        long number() {
            return new BigInteger(1, has).longValueExact();
        }

        long seconds() {
            return ChronoUnit.SECONDS.between(Texts.START, LocalDateTime.parse(new String(has), STAMP));
        }

        byte[] signature() {
            return Arrays.copyOfRange(has, 1, 9);
        }
    }

    /** Reads what it stands for into the parts of a node, from a place on: the place behind it. */
    interface Rule {
        int read(byte[] text, int at, int end, Node into);
    }

    private static final DateTimeFormatter STAMP =
            DateTimeFormatter.ofPattern("uuuuMMddHHmmss'Z'").withResolverStyle(ResolverStyle.STRICT);

    private static final Rule SERIAL = integer(0, Integer.MAX_VALUE);
    private static final Rule NAME = bytes(1, 16);
    private static final Rule HASH = bytes(8, 8);
    private static final Rule TIME = plain(24, Grammar::isTime);
    private static final Rule CODE = plain(10, has -> has.length == 1 && has[0] >= 0 && has[0] <= 10);
    private static final Rule SIGNATURE = plain(3, has -> has.length == 9 && has[0] == 0);
    private static final Rule NOTHING_128 = plain(128, has -> has.length == 0);
    private static final Rule NOTHING_130 = plain(130, has -> has.length == 0);
    private static final Rule ID = nested(48, HASH, HASH, SERIAL);
    private static final Rule CERT = nested(48,
            nested(48, SERIAL, NAME, NAME, TIME, TIME, integer(2, 2147483578L), integer(0, 3)), SIGNATURE);
    private static final Rule STATE = oneOf(NOTHING_128, nested(161, TIME, CODE), NOTHING_130);
    private static final Rule SINGLE = nested(48, ID, STATE, TIME, perhaps(nested(160, TIME)));
    private static final Rule BODY = nested(48, oneOf(nested(161, NAME), nested(162, HASH)), TIME,
            nested(48, oneToEight(SINGLE)), perhaps(nested(163, bytes(1, 16))));
    private static final Rule ASK = nested(48, nested(48, oneToEight(ID)), perhaps(nested(162, bytes(1, 16))));
    private static final Rule SIGNED = nested(160, nested(48, BODY, SIGNATURE, perhaps(nested(160, CERT))));
    private static final Rule ANSWER = nested(48, CODE, Grammar::ifStatusIsNought);
    private static final Rule[] TEXTS = {CERT, ASK, ANSWER};

    private Grammar() {
    }

    /** The text as a tree: 0 a cert, 1 an ask, 2 an answer. */
    static Node read(int what, byte[] text) {
        Node top = new Node();
        int end = TEXTS[what].read(text, 0, text.length, top);
        if (end != text.length) {
            throw new Fault(end);
        }
        return top.part(0);
    }

    /** What check() should answer. */
    static int check(int what, byte[] text) {
        try {
            return read(what, text).items();
        } catch (Fault fault) {
            return -10 - fault.place;
        }
    }

    private static Node header(byte[] text, int at, int end, int sort) {
        Node node = new Node();
        node.sort = sort;
        node.place = at;
        if (end - at < 2 || (text[at] & 255) != sort) {
            throw new Fault(at);
        }
        int first = text[at + 1] & 255;
        int from = at + 2;
        int length = first;
        if (first == 129 && end - at >= 3) {
            length = text[at + 2] & 255;
            from = at + 3;
            if (length < 128) {
                throw new Fault(at);
            }
        } else if (first == 130 && end - at >= 4) {
            length = (text[at + 2] & 255) * 256 + (text[at + 3] & 255);
            from = at + 4;
            if (length < 256) {
                throw new Fault(at);
            }
        } else if (first >= 128) {
            throw new Fault(at);
        }
        if (length > end - from) {
            throw new Fault(at);
        }
        node.end = from + length;
        node.has = Arrays.copyOfRange(text, from, node.end);
        return node;
    }

    private static Rule plain(int sort, Predicate<byte[]> isAsTold) {
        return (text, at, end, into) -> {
            Node node = header(text, at, end, sort);
            if (!isAsTold.test(node.has)) {
                throw new Fault(at);
            }
            into.parts.add(node);
            return node.end;
        };
    }

    private static Rule nested(int sort, Rule... rules) {
        return (text, at, end, into) -> {
            Node node = header(text, at, end, sort);
            int here = node.end - node.has.length;
            for (Rule rule : rules) {
                here = rule.read(text, here, node.end, node);
            }
            if (here != node.end) {
                throw new Fault(here);
            }
            into.parts.add(node);
            return here;
        };
    }

    private static Rule perhaps(Rule rule) {
        return (text, at, end, into) -> at == end ? at : rule.read(text, at, end, into);
    }

    /** The one whose sort is there is taken; each of them begins with a sort of its own. */
    private static Rule oneOf(Rule... rules) {
        return (text, at, end, into) -> {
            Fault deepest = new Fault(at);
            for (Rule rule : rules) {
                try {
                    return rule.read(text, at, end, into);
                } catch (Fault fault) {
                    deepest = fault.place > deepest.place ? fault : deepest;
                }
            }
            throw deepest;
        };
    }

    private static Rule oneToEight(Rule rule) {
        return (text, at, end, into) -> {
            int here = at;
            for (int i = 0; i < 8 && (i == 0 || here < end); i++) {
                here = rule.read(text, here, end, into);
            }
            return here;
        };
    }

    private static int ifStatusIsNought(byte[] text, int at, int end, Node into) {
        return into.part(0).has[0] == 0 ? SIGNED.read(text, at, end, into) : at;
    }

    private static Rule integer(long least, long most) {
        return plain(2, has -> isIntegerOf(has, BigInteger.valueOf(least), BigInteger.valueOf(most)));
    }

    private static boolean isIntegerOf(byte[] has, BigInteger least, BigInteger most) {
        if (has.length == 0) {
            return false;
        }
        BigInteger value = new BigInteger(has);
        return Arrays.equals(value.toByteArray(), has) && value.compareTo(least) >= 0 && value.compareTo(most) <= 0;
    }

    private static Rule bytes(int least, int most) {
        return plain(4, has -> has.length >= least && has.length <= most);
    }

    private static boolean isTime(byte[] has) {
        if (has.length != 15) {
            return false;
        }
        for (int i = 0; i < 14; i++) {
            if (has[i] < '0' || has[i] > '9') {
                return false;
            }
        }
        try {
            int year = LocalDateTime.parse(new String(has), STAMP).getYear();
            return year >= 2000 && year <= 2099;
        } catch (DateTimeParseException wrong) {
            return false;
        }
    }
}
