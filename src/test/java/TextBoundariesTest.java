import java.util.Arrays;
import java.util.function.Supplier;
import java.util.function.ToIntFunction;
import java.util.regex.Matcher;
import java.util.regex.Pattern;

/** What THE TEXT may tell and where its FAULTS are: each sentence of the document on it; promises 29 to 31. */
public final class TextBoundariesTest {
    private static final Probe probe = new Probe("TextBoundariesTest");
    private static final String NUMBER = "[0-9]{1,3}", NEXT = " +" + NUMBER, NEXT_OR_DEBT = "( *-| +)" + NUMBER;
    /** All texts without n for a network of 3 points. */
    private static final Pattern TEXT = Pattern.compile("( *(l *" + NUMBER + NEXT + NEXT + "|[fb] *" + NUMBER + "|z|a *" + NUMBER
        + NEXT_OR_DEBT + "|c *-?" + NUMBER + NEXT_OR_DEBT + NEXT_OR_DEBT + ") *;)+ *");

    public static void main(String[] args) {
        bytes();
        length();
        endsTooEarly();
        eachByteInEachPlace();
        numbersOfPoints();
        numbersOfChips();
        figures();
        debts();
        blanks();
        ordersAsCalls();
        ordersRefused();
        faultAheadOfRefused();
        nothingIsDone();
        oneStateForAll();
        textStays();
        most();
        probe.end();
    }

    private static void due(String call, long got, long want) {
        probe.due(call, got, want);
    }

    private static FiredChips ring() {
        return Probe.triangle(1, 2, 2);
    }

    private static Supplier<FiredChips> ringWith(String words) {
        return () -> {
            FiredChips x = ring();
            x.keeps(1);
            Probe.typed(x, words);
            return x;
        };
    }

    private static void faultDue(String words, int place) {
        probe.asked("reads() of '" + words + "'", ringWith(words), FiredChips::reads, -10 - place);
    }

    private static void doneDue(String words, int orders, int... chips) {
        probe.leaves("reads() of '" + words + "'", ringWith(words), FiredChips::reads, orders);
        FiredChips x = ringWith(words).get();
        x.reads();
        probe.chipsDue("'" + words + "'", x, chips);
    }

    private static void stoppedDue(String words, int order) {
        probe.asked("reads() of '" + words + "'", ringWith(words), FiredChips::reads, -1000 - order);
    }

    /** "A byte (0 .. 127) comes behind THE TEXT: how many it has." */
    private static void bytes() {
        FiredChips x = new FiredChips();
        for (int c = 0; c <= 127; c++) {
            due("type(" + c + ")", x.type(c), 1);
            due("clear()", x.clear(), 1);
        }
        due("type(128)", x.type(128), Probe.BAD);
        due("type(-1)", x.type(-1), Probe.BAD);
        due("type(256 and 'z')", x.type(256 + 'z'), Probe.BAD);
        probe.countsDue("type counts as any call", x, 3, 0, 0);
        for (int c = 0; c <= 127; c++) {
            FiredChips y = ring();
            y.type(c);
            // an order's letter or a blank may stand first, and then the text ends too early
            boolean mayStand = " nlcfbza".indexOf(c) >= 0;
            due("reads() of byte " + c, y.reads(), mayStand ? -11 : -10);
        }
    }

    /** "THE TEXT (120 bytes at most)", "FULL: -4, 120"; clear() "how many it had" */
    private static void length() {
        FiredChips x = new FiredChips();
        for (int i = 1; i <= 120; i++) {
            due("type", x.type('z'), i);
            due("bytes", x.told(3), i);
        }
        due("type, the 121st", x.type('z'), Probe.FULL);
        due("bytes", x.told(3), 120);
        probe.countsDue("a full text", x, 0, 0, 1);
        due("reads() of 120 z", x.reads(), -11);
        due("clear()", x.clear(), 120);
        due("clear(), empty", x.clear(), 0);
        due("type behind clear()", x.type('z'), 1);
        due("type", x.type(';'), 2);
        due("reads() of 'z;' stops, nothing is joined", x.reads(), -1000);
        probe.countsDue("what a text tells counts nothing", x, 0, 0, 1);
        FiredChips shorter = ring();
        Probe.typed(shorter, "f1;f1;f1;");
        shorter.clear();
        due("reads(), cleared", shorter.reads(), -10);
        Probe.typed(shorter, "f1;");
        due("reads(), a shorter text", shorter.reads(), 1);
    }

    /** "the TEXT's length, if it ends too early (an empty one, too)" */
    private static void endsTooEarly() {
        faultDue("", 0);
        faultDue(" ", 1);
        faultDue(" ".repeat(120), 120);
        String[] whole = {"n 003 ;", "l 0 1 2 ;", "c -1 20 -300 ;", "f 1 ;", "b 12 ;", "z ;", "a 1 -2 ;"};
        for (String order : whole) {
            for (int to = 0; to < order.length(); to++) {
                String part = order.substring(0, to);
                // 0 and 00 are numbers that are not 2 to 5
                boolean faultAhead = part.matches("n 0+");
                if (!faultAhead) {
                    faultDue(part, to);
                }
                if (!faultAhead && to > 0) {
                    faultDue("f0; " + part, 4 + to);
                }
            }
        }
    }

    /** "the place of the first byte that can not stand there": each byte in each place of texts that are right */
    private static void eachByteInEachPlace() {
        String[] whole = {"l 0 1 2;z ;", "c-1 20-300;", "c 1  2 3 ; f1;", "b 12;a1-2;", "a 1 23 ;"};
        for (String words : whole) {
            for (int at = 0; at <= words.length(); at++) {
                for (char c = 0; c <= 127; c++) {
                    regular(words.substring(0, at) + c + words.substring(at));
                    if (at < words.length()) {
                        regular(words.substring(0, at) + c + words.substring(at + 1));
                    }
                }
                if (at < words.length()) {
                    regular(words.substring(0, at) + words.substring(at + 1));
                }
            }
        }
    }

    private static void regular(String words) {
        if (words.indexOf('n') >= 0) {
            return;
        }
        int want = -10 - words.length();
        for (int to = words.length(); to > 0; to--) {
            Matcher m = TEXT.matcher(words.substring(0, to));
            if (!m.matches() && !m.hitEnd()) {
                want = -10 - (to - 1);
            }
        }
        boolean right = TEXT.matcher(words).matches();
        FiredChips x = ring();
        int got = Probe.reads(x, words);
        if (right) {
            int orders = words.replaceAll("[^;]", "").length();
            probe.check("reads() of '" + words + "' is no FAULT, answered " + got, got == orders || got <= -1000 && got > -1000 - orders);
        } else {
            due("reads() of '" + words + "'", got, want);
        }
        probe.countsDue("by a text nothing counts", x, 0, 0, 0);
    }

    /** "of n: a number that is not 2 to 5, its first byte" */
    private static void numbersOfPoints() {
        for (int n = 0; n <= 999; n++) {
            String words = "n " + n + ";";
            FiredChips x = ring();
            if (n >= 2 && n <= 5) {
                due(words, Probe.reads(x, words), 1);
                due(words + " N", x.told(4), n);
            } else {
                due(words, Probe.reads(x, words), -12);
                due(words + " N", x.told(4), 3);
            }
        }
        faultDue("n1;", 1);
        doneDue("n2;", 1, 0, 0);
        doneDue("n5;", 1, 0, 0, 0, 0, 0);
        faultDue("n6;", 1);
        faultDue("n0;", 1);
        faultDue("n   6 ;", 4);
        faultDue("n 006;", 2);
        faultDue("n 001;", 2);
        doneDue("n 005;", 1, 0, 0, 0, 0, 0);
        doneDue("n02;", 1, 0, 0);
        faultDue("n 6", 2);
        faultDue("n 6x;", 2);
        faultDue("n 6 6;", 2);
        faultDue("n 3 3;", 4);
        faultDue("n-3;", 1);
        faultDue("n 0003;", 5);
        faultDue("n 9 99;", 2);
        faultDue("f1;n 7;x", 5);
    }

    /** "c has as many numbers as THE NETWORK has POINTS then" */
    private static void numbersOfChips() {
        String[] rows = {"", "1", "1 2", "1 2 3", "1 2 3 4", "1 2 3 4 5", "1 2 3 4 5 6"};
        for (int n = 2; n <= 5; n++) {
            for (int many = 1; many <= 6; many++) {
                String words = "c" + rows[many] + ";";
                int place = many < n ? 2 * many : 2 * n + 1;
                int points = n;
                Supplier<FiredChips> make = () -> {
                    FiredChips x = Probe.network(points);
                    Probe.typed(x, words);
                    return x;
                };
                if (many == n) {
                    probe.leaves(words + " of " + n, make, FiredChips::reads, 1);
                    doneDue("n" + n + ";" + words, 2, Arrays.copyOf(new int[] {1, 2, 3, 4, 5}, n));
                } else {
                    probe.asked(words + " of " + n, make, FiredChips::reads, -10 - place);
                    faultDue("n" + n + ";" + words, 3 + place);
                }
            }
        }
        faultDue("c;", 1);
        doneDue("n2;c1 2;n4;c1 2 3 4;n3;c7 8 9;", 6, 7, 8, 9);
        faultDue("n2;n5;c1 2;", 10);
        faultDue("c1 2 3;n2;c1 2 3;", 15);
        // the N that a text would have made is not there, as nothing was done
        FiredChips x = ring();
        Probe.reads(x, "n2;x");
        due("c of N as before", Probe.reads(x, "c1 2 3;"), 1);
        Probe.reads(x, "n2;f4;");
        due("c of N as before", Probe.reads(x, "c1 2 3;"), 1);
    }

    /** "Numbers have 1 to 3 figures", "(a fourth figure ..)" */
    private static void figures() {
        doneDue("c1 22 333;", 1, 1, 22, 333);
        doneDue("c001 022 333;", 1, 1, 22, 333);
        doneDue("c999-999 000;", 1, 999, -999, 0);
        faultDue("c1 22 4444;", 9);
        faultDue("c0001 2 3;", 4);
        faultDue("c-0001 2 3;", 5);
        faultDue("c1 2 -1000;", 9);
        faultDue("f0001;", 4);
        doneDue("f001;", 1, 2, 0, 3);
        faultDue("b0001;", 4);
        faultDue("l0000 1 1;", 4);
        faultDue("l0 0001 1;", 6);
        faultDue("l0 1 0001;", 8);
        doneDue("l000 001 003;", 1, 1, 2, 2);
        faultDue("a0001 1;", 4);
        faultDue("a1 0001;", 6);
        faultDue("a1-0001;", 6);
        doneDue("a001-001;", 1, 1, 1, 2);
        faultDue("f1f;", 2);
        faultDue("f:;", 1);
        faultDue("f/;", 1);
    }

    /** "those of c and v perhaps - ahead", "(none behind a -)" */
    private static void debts() {
        doneDue("c-1-2-3;", 1, -1, -2, -3);
        doneDue("c -0 -00 -000;", 1, 0, 0, 0);
        doneDue("a2-99;", 1, 1, 2, -97);
        doneDue("a2 -99;", 1, 1, 2, -97);
        faultDue("a2- 9;", 3);
        faultDue("c- 1 2 3;", 2);
        faultDue("c1 - 2 3;", 4);
        faultDue("c--1 2 3;", 2);
        faultDue("c-;", 2);
        faultDue("c-", 2);
        faultDue("a-1 1;", 1);
        faultDue("f-1;", 1);
        faultDue("f-0;", 1);
        faultDue("b-1;", 1);
        faultDue("n-3;", 1);
        faultDue("l-0 1 1;", 1);
        faultDue("l0 -1 1;", 3);
        faultDue("l0 1 -1;", 5);
        faultDue("l0 1-1;", 4);
        faultDue("c+1 2 3;", 1);
        faultDue("c1- 2 3;", 3);
    }

    /** "blanks (32) may stand anywhere but within a number, needed only where figures .. would .. stand side by side" */
    private static void blanks() {
        doneDue("  c  1  -2  3  ;  ", 1, 1, -2, 3);
        doneDue("c1-2 3;", 1, 1, -2, 3);
        doneDue("c 1 -2-3;f1;b1;", 3, 1, -2, -3);
        doneDue("c1 2 3;   c4 5 6;", 2, 4, 5, 6);
        doneDue("f1;f1;", 2, 3, -2, 4);
        doneDue(" f 1 ; f 1 ; ", 2, 3, -2, 4);
        doneDue("z;", 1, 3, 1, 1);
        doneDue(" z ; ", 1, 3, 1, 1);
        faultDue("c12 3;", 5);
        faultDue("l01 1;", 5);
        faultDue("a11;", 3);
        faultDue("f1 1;", 3);
        faultDue("f1\t;", 2);
        faultDue("\nf1;", 0);
        faultDue("f1;;", 3);
        faultDue(";f1;", 0);
        faultDue("F1;", 0);
        doneDue("f1;" + " ".repeat(117), 1, 2, 0, 3);
        doneDue(" ".repeat(117) + "f1;", 1, 2, 0, 3);
        faultDue(" ".repeat(118) + "f1", 120);
    }

    /** "n p (as points); l a b k (as lines); c ..; f p (as fires), b p (as borrows); z (as settles); a p v (as adds)" */
    private static void ordersAsCalls() {
        same("n 4;", x -> x.points(4));
        same("n 3;", x -> x.points(3));
        same("l 0 1 3;", x -> x.lines(0, 1, 3));
        same("l 2 1 0;", x -> x.lines(2, 1, 0));
        same("f 0;", x -> x.fires(0));
        same("f 2;", x -> x.fires(2));
        same("b 0;", x -> x.borrows(0));
        same("b 2;", x -> x.borrows(2));
        same("z;", x -> x.settles());
        same("a 0 99;", x -> x.adds(0, 99));
        same("a 2 -99;", x -> x.adds(2, -99));
        FiredChips x = ring();
        due("many orders", Probe.reads(x, "n4;l0 1 1;l1 2 2;l2 3 3;c0 1 2 9;z;f1;b3;a2-8;"), 9);
        FiredChips y = ring();
        y.points(4);
        y.lines(0, 1, 1);
        y.lines(1, 2, 2);
        y.lines(2, 3, 3);
        y.sets(1, 1);
        y.sets(2, 2);
        y.sets(3, 9);
        y.settles();
        y.fires(1);
        y.borrows(3);
        y.adds(2, -8);
        for (int p = 0; p < 4; p++) {
            due("many orders: chips", x.of(p, 0), y.of(p, 0));
            due("many orders: script", x.script(p), y.script(p));
        }
    }

    private static void same(String words, ToIntFunction<FiredChips> call) {
        FiredChips x = ring();
        FiredChips y = ring();
        due(words, Probe.reads(x, words), 1);
        call.applyAsInt(y);
        x.clear();
        due(words + " as its call", x.digest(), y.digest());
    }

    /** "An ORDER that its call would refuse stops all: nothing is done."; "-1000 less the number (0 on)" */
    private static void ordersRefused() {
        stoppedDue("l0 3 1;", 0);
        stoppedDue("l3 0 1;", 0);
        stoppedDue("l1 1 1;", 0);
        stoppedDue("l0 1 4;", 0);
        stoppedDue("l999 0 1;", 0);
        stoppedDue("f3;", 0);
        stoppedDue("f999;", 0);
        stoppedDue("f32;", 0);
        stoppedDue("b3;", 0);
        stoppedDue("b33;", 0);
        stoppedDue("a3 1;", 0);
        stoppedDue("a1 100;", 0);
        stoppedDue("a1-100;", 0);
        doneDue("a1 99;", 1, 1, 101, 2);
        stoppedDue("c0 901 0;a1 99;", 1);
        doneDue("c0 900 0;a1 99;", 2, 0, 999, 0);
        stoppedDue("c0 -901 0;a1-99;", 1);
        doneDue("c0 -900 0;a1-99;", 2, 0, -999, 0);
        stoppedDue("c999 0 0;f1;", 1);
        doneDue("c998 0 0;f1;", 2, 999, -2, 1);
        stoppedDue("c-999 0 0;b1;", 1);
        doneDue("c-998 0 0;b1;", 2, -999, 2, -1);
        stoppedDue("c999 2 0;z;", 1);
        doneDue("c998 2 0;z;", 2, 999, 0, 1);
        stoppedDue("c0 0 -1;z;", 1);
        stoppedDue("l0 1 0;l0 2 0;z;", 2);
        stoppedDue("n2;f2;", 1);
        stoppedDue("n2;z;", 1);
        stoppedDue("f1;f1;f1;f9;f9;", 3);
        // the last of as many orders as there can be
        stoppedDue("z;".repeat(58) + "f9;", 58);
        // each call of a text is looked at behind those ahead of it
        doneDue("n5;f4;", 2, 0, 0, 0, 0, 0);
        doneDue("n5;l4 3 3;", 2, 0, 0, 0, 0, 0);
    }

    /** "FAULT .. If there is one, nothing is done." */
    private static void faultAheadOfRefused() {
        faultDue("f9;x", 3);
        stoppedDue("f9;", 0);
        faultDue("n2;f2;c1 2 3;", 11);
    }

    /** "If there is one, nothing is done", and "By what THE TEXT tells, by a FAULT of it nothing counts" */
    private static void nothingIsDone() {
        String much = "n5;l0 1 2;c1 2 3 4 5;f1;b2;a3 9;";
        faultDue(much + "x", much.length());
        doneDue(much, 6, 3, 0, 3, 13, 5);
        stoppedDue(much + "f5;", 6);
        stoppedDue(much + "z;", 6);
        stoppedDue("c0 4 4;z;f7;", 2);
    }

    /** "S (one STATE for all)" */
    private static void oneStateForAll() {
        FiredChips x = new FiredChips();
        due("no state yet", x.told(6), 0);
        due("six orders", Probe.reads(x, "n3;l0 1 1;l1 2 1;c0 5 5;f1;z;"), 6);
        due("one state", x.told(6), 1);
        due("back()", x.back(), 0);
        due("back over all", x.net(1, 1) + x.of(1, 0) + x.script(1), 1000);
        Probe.reads(x, "f0;x");
        due("a FAULT leaves none", x.told(6), 0);
        Probe.reads(x, "f0;f3;");
        due("a refused ORDER leaves none", x.told(6), 0);
        for (int i = 1; i <= 6; i++) {
            Probe.reads(x, "f0;");
            due("states", x.told(6), Math.min(i, 5));
        }
    }

    /** "ORDERS are done (THE TEXT stays)" */
    private static void textStays() {
        FiredChips x = ring();
        Probe.typed(x, "a0 1");
        due("too early", x.reads(), -14);
        due("bytes", x.told(3), 4);
        due("type(';')", x.type(';'), 5);
        for (int i = 1; i <= 3; i++) {
            due("reads() again", x.reads(), 1);
            due("bytes", x.told(3), 5);
            due("chips", x.of(0, 0), 1001 + i);
        }
        x.back();
        due("bytes behind back()", x.told(3), 5);
        x.type('f');
        due("reads(), one byte more", x.reads(), -16);
        x.points(2);
        x.draws(3);
        due("bytes behind points()", x.told(3), 6);
    }

    /** 120 bytes: 60 orders of two bytes are the most there can be */
    private static void most() {
        FiredChips x = ring();
        due("60 orders", Probe.reads(x, "z;".repeat(60)), 60);
        due("60 orders, one state more", x.told(6), 5);
        FiredChips y = Probe.network(5);
        due("c ten times", Probe.reads(y, "c-9-9-9-9-9;".repeat(10)), 10);
        probe.chipsDue("c ten times", y, -9, -9, -9, -9, -9);
        due("a FAULT at the last byte", Probe.reads(ring(), "z;".repeat(59) + "z!"), -10 - 119);
        due("the end too early", Probe.reads(ring(), "z;".repeat(59) + " z"), -10 - 120);
        due("a number at the end", Probe.reads(ring(), "z;".repeat(58) + "f999"), -10 - 120);
    }
}
