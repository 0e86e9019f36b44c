import java.util.NoSuchElementException;

/**
 * The boundary cases of runs and of what is asked behind them: the terms I and III and the promises 5
 * and 7 to 12, a sentence of the document at a time. The object under test is never called more than
 * 512 times.
 */
public final class BoundsOfRuns {
    private static final int LEAST = Integer.MIN_VALUE;
    private static final int MOST = Integer.MAX_VALUE;
    /** g(n) builds 5 * n cells in n + 1 calls, h(n) one more. */
    private static final String FIVES = "fun f n l = if n then f(n - 1, A(A(A(A(A(l)))))) else l ; "
        + "fun g n = f(n, 0) ; fun h n = A(f(n, 0)) ; ";
    /** main(k, n, j) works k * (19 + 12 * n) + 6 * j + 12 STEPS in less than 100 calls; the last is the 0. */
    private static final String LONG = "fun w n = if n then w(n - 1) else 0 ; "
        + "fun m k n = if k then let x = w(n) in let y = w(n) in m(k - 1, n) else 0 ; "
        + "fun main k n j = m(k, n) + w(j) ; ";
    private static final int THROWS = -1000;
    private static int wrong = 0;
    private static String sentence = "";

    public static void main(String[] args) {
        otherNumbers();
        withoutTheFunction();
        plainOtherNumbers();
        cellsFromNoneToAll();
        stepsFromNoneToAll();
        intsTold();
        intsWrap();
        ifAndLess();
        ended();
        stuck();
        full();
        fullWithShells();
        deep();
        cut();
        fromTheLeft();
        armsFit();
        uses();
        dropsAtOnce();
        dropsAsAWayBegins();
        matchOfAny();
        matchOfAKind();
        shells();
        shellsLeft();
        steps();
        plainCells();
        plainLeavesTheRun();
        showNone();
        showWhole();
        showFull();
        outOutside();
        releaseNone();
        releaseShared();
        countAheadAndOthers();
        countEach();
        manyCalls();
        System.out.println(wrong == 0 ? "all bounds of runs hold" : wrong + " answers are not as due");
        if (wrong != 0) {
            System.exit(1);
        }
    }

    private static void due(String what, long got, long want) {
        if (got != want) {
            wrong++;
            System.out.println("\"" + sentence + "\" " + what + " answered " + got + ", due is " + want);
        }
    }

    private static void due(String what, String got, String want) {
        if (!got.equals(want)) {
            wrong++;
            System.out.println("\"" + sentence + "\" " + what + " answered " + got + ", due is " + want);
        }
    }

    private static int take(ReuseHouse house, String text) {
        for (int i = 0; i < text.length(); i += 20) {
            int[] five = new int[5];
            for (int k = 0; k < 20; k++) {
                int sign = i + k < text.length() ? text.charAt(i + k) : ' ';
                five[k / 4] = five[k / 4] << 8 | sign;
            }
            house.feed(five[0], five[1], five[2], five[3], five[4]);
        }
        return house.program(text.length());
    }

    private static ReuseHouse with(String text) {
        ReuseHouse house = new ReuseHouse();
        int functions = take(house, text);
        if (functions < 1) {
            due("program of " + text + " (fault " + house.fault() + " at " + house.where() + ")", functions, 1);
        }
        return house;
    }

    private static int run(ReuseHouse house, int f, int... numbers) {
        int[] four = new int[4];
        System.arraycopy(numbers, 0, four, 0, numbers.length);
        return house.run(f, 400, 20000, four[0], four[1], four[2], four[3]);
    }

    private static String shown(ReuseHouse house, boolean other) {
        int size = house.show(other);
        StringBuilder text = new StringBuilder();
        for (int i = 0; i < size; i++) {
            text.append((char) at(house, i));
        }
        return size < 0 ? "none" : text.toString();
    }

    /** Byte i of OUT, or THROWS if out(i) throws what the document says. */
    private static int at(ReuseHouse house, int i) {
        try {
            return house.out(i);
        } catch (NoSuchElementException none) {
            return THROWS;
        }
    }

    /** All that can be asked without a change, but for the value and THE OTHER. */
    private static String state(ReuseHouse house) {
        StringBuilder text = new StringBuilder();
        text.append(house.fault()).append(' ').append(house.where());
        for (int what = 0; what <= 7; what++) {
            text.append(' ').append(house.count(what));
        }
        for (int i = 0; i < 6; i++) {
            text.append(' ').append(at(house, i));
        }
        return text.append(' ').append(house.about(0, 1)).toString();
    }

    /** The text has a ^ right ahead of the place that is due; run() and plain() stop alike there. */
    private static void stops(int how, String marked, int steps, int number) {
        int place = marked.indexOf('^');
        ReuseHouse house = with(marked.replace("^", ""));
        due("run of " + marked, house.run(0, 400, steps, number, 0, 0, 0), how);
        due("where behind run of " + marked, house.where(), place);
        due("held behind run of " + marked, house.count(6), 0);
        due("show behind run of " + marked, house.show(false), -1);
        due("release behind run of " + marked, house.release(), -1);
        due("plain of " + marked, house.plain(0, steps, number, 0, 0, 0), how);
        due("where behind plain of " + marked, house.where(), place);
        due("show(true) behind plain of " + marked, house.show(true), -1);
    }

    /** How function 0 ended, then MADE, REUSED, FREED, the most held, DOUBLED, held now. */
    private static void counts(String text, int cells, int steps, int number, String want) {
        ReuseHouse house = with(text);
        StringBuilder got = new StringBuilder();
        got.append(house.run(0, cells, steps, number, 0, 0, 0)).append(':');
        for (int what = 1; what <= 6; what++) {
            got.append(' ').append(house.count(what));
        }
        due("counts of " + text, got.toString(), want);
        if (house.count(6) > 0) {
            due("release of " + text, house.release(), Integer.parseInt(want.substring(want.lastIndexOf(' ') + 1)));
        }
        due("held behind all of " + text, house.count(6), 0);
    }

    private static void otherNumbers() {
        sentence = "run: with so many cells (0 .. 400) and STEPS (0 .. 20,000). NONE, and nothing changes, for other numbers";
        ReuseHouse house = with("fun f a = A(a) ; fun g a = 1 + B ;");
        due("run", house.run(0, 400, 20000, 6, 0, 0, 0), 1);
        due("plain", house.plain(0, 20000, 7, 0, 0, 0), 1);
        due("show", shown(house, false), "A(6)");
        due("plain that stops", house.plain(1, 20000, 7, 0, 0, 0), 2);
        due("plain", house.plain(0, 20000, 7, 0, 0, 0), 1);
        String before = state(house);
        int[] others = {-1, -2, LEAST, 401, 402, 20000, 20001, MOST};
        for (int cells : others) {
            due("cells " + cells, house.run(0, cells, 9, 5, 5, 5, 5), -1);
        }
        int[] steps = {-1, -2, LEAST, 20001, 20002, MOST};
        for (int number : steps) {
            due("steps " + number, house.run(0, 9, number, 5, 5, 5, 5), -1);
        }
        due("both", house.run(0, -1, -1, 5, 5, 5, 5), -1);
        due("nothing changes", state(house), before);
        due("nor the value", shown(house, false), "A(6)");
        due("nor the other", shown(house, true), "A(7)");
        due("nor what is held", house.release(), 1);
        due("run that stops", house.run(1, 0, 9, 0, 0, 0, 0), 2);
        before = state(house);
        due("cells -1", house.run(0, -1, 9, 5, 5, 5, 5), -1);
        due("where stays", state(house), before);
    }

    private static void withoutTheFunction() {
        sentence = "run: NONE, and nothing changes, without it";
        ReuseHouse house = with("fun f a = A(a) ; fun g a = A(a) ;");
        due("run", house.run(1, 400, 20000, 6, 0, 0, 0), 1);
        due("plain", house.plain(1, 20000, 7, 0, 0, 0), 1);
        due("show", shown(house, true), "A(7)");
        String before = state(house);
        int[] others = {-1, 2, 3, 30, LEAST, MOST};
        for (int f : others) {
            due("run of " + f, house.run(f, 9, 9, 5, 5, 5, 5), -1);
            due("plain of " + f, house.plain(f, 9, 5, 5, 5, 5), -1);
        }
        due("nothing changes", state(house), before);
        due("nor the value", shown(house, false), "A(6)");
        due("nor the other", shown(house, true), "A(7)");
        house = new ReuseHouse();
        due("run without a program", house.run(0, 9, 9, 5, 5, 5, 5), -1);
        due("plain without a program", house.plain(0, 9, 5, 5, 5, 5), -1);
        due("a program that is refused", take(house, "fun f = 1"), -1);
        due("run without a program", house.run(0, 9, 9, 5, 5, 5, 5), -1);
        due("plain without a program", house.plain(0, 9, 5, 5, 5, 5), -1);
        due("where stays", house.where(), 9);
        due("count ahead of any", house.count(0), -1);
    }

    private static void plainOtherNumbers() {
        sentence = "plain: As run(): NONE, and nothing changes, for other numbers";
        ReuseHouse house = with("fun f a = A(a) ;");
        due("plain", house.plain(0, 20000, 7, 0, 0, 0), 1);
        due("plain with 3 steps", house.plain(0, 3, 8, 0, 0, 0), 1);
        due("run that is cut", house.run(0, 9, 1, 0, 0, 0, 0), 5);
        String before = state(house);
        int[] steps = {-1, -2, LEAST, 20001, 20002, MOST};
        for (int number : steps) {
            due("steps " + number, house.plain(0, number, 5, 5, 5, 5), -1);
        }
        due("nothing changes", state(house), before);
        due("nor the other", shown(house, true), "A(8)");
        due("0 steps", house.plain(0, 0, 5, 5, 5, 5), 5);
        due("where", house.where(), 10);
        due("1 step", house.plain(0, 1, 5, 5, 5, 5), 5);
        due("where", house.where(), 12);
        due("2 steps", house.plain(0, 2, 5, 5, 5, 5), 1);
        due("where", house.where(), -1);
    }

    private static void cellsFromNoneToAll() {
        sentence = "400 cells; run: with so many cells (0 .. 400)";
        ReuseHouse house = with(FIVES + "fun i n = B ; ");
        due("0 cells where none is wanted", house.run(3, 0, 20000, 0, 0, 0, 0), 1);
        due("0 cells where one is wanted", house.run(2, 0, 20000, 0, 0, 0, 0), 3);
        due("most held", house.count(4), 0);
        due("1 cell where one is wanted", house.run(2, 1, 20000, 0, 0, 0, 0), 1);
        due("400 cells", house.run(1, 400, 20000, 80, 0, 0, 0), 1);
        due("made", house.count(1), 400);
        due("most held", house.count(4), 400);
        due("held now", house.count(6), 400);
        due("399 cells", house.run(1, 399, 20000, 80, 0, 0, 0), 3);
        due("most held", house.count(4), 399);
        due("held behind one that has not ended", house.count(6), 0);
        due("a 401st", house.run(2, 400, 20000, 80, 0, 0, 0), 3);
        due("where", house.where(), FIVES.indexOf("A(f("));
        due("most held", house.count(4), 400);
        due("made", house.count(1), 400);
        due("all are free again", house.run(1, 400, 20000, 80, 0, 0, 0), 1);
        due("release", house.release(), 400);
    }

    private static void stepsFromNoneToAll() {
        sentence = "run: STEPS (0 .. 20,000)";
        ReuseHouse house = with(LONG);
        int last = LONG.indexOf("0 ;");
        due("exactly 20,000", house.run(2, 0, 20000, 38, 42, 19, 0), 1);
        due("steps", house.count(0), 20000);
        due("one less is allowed", house.run(2, 0, 19999, 38, 42, 19, 0), 5);
        due("where", house.where(), last);
        due("steps", house.count(0), 19999);
        due("one more is wanted", house.run(2, 0, 20000, 39, 41, 10, 0), 5);
        due("where", house.where(), last);
        due("steps", house.count(0), 20000);
        due("exactly 20,000 plainly", house.plain(2, 20000, 38, 42, 19, 0), 1);
        due("one less plainly", house.plain(2, 19999, 38, 42, 19, 0), 5);
        due("where", house.where(), last);
        due("one more plainly", house.plain(2, 20000, 39, 41, 10, 0), 5);
        due("where", house.where(), last);
        due("0 steps", house.run(2, 0, 0, 38, 42, 19, 0), 5);
        due("steps", house.count(0), 0);
        due("where", house.where(), LONG.indexOf("+ w(j)"));
        due("1 step where one is wanted", run(house, 0, 0), 1);
        due("3 steps", house.run(0, 0, 3, 0, 0, 0, 0), 1);
        due("2 steps", house.run(0, 0, 2, 0, 0, 0, 0), 5);
    }

    private static void intsTold() {
        sentence = "run: with these INTS as its first names told (as many as it has; a fifth and sixth 0)";
        ReuseHouse house = with("fun g = 9 ; fun a x = x ; fun b x y = y ; fun c x y z = z ; fun d x y z u = u ; "
            + "fun e x y z u v = P(u, v) ; fun f x y z u v w = T(P(x, y), P(z, u), P(v, w)) ;");
        String[] values = {"9", "1", "2", "3", "4", "P(4,0)", "T(P(1,2),P(3,4),P(0,0))"};
        for (int f = 0; f < values.length; f++) {
            due("run of " + f, run(house, f, 1, 2, 3, 4), 1);
            due("value of " + f, shown(house, false), values[f]);
            due("plain of " + f, house.plain(f, 20000, 1, 2, 3, 4), 1);
            due("other of " + f, shown(house, true), values[f]);
        }
    }

    private static void intsWrap() {
        sentence = "VALUES: INTS (that wrap)";
        ReuseHouse house = with("fun a x y = x + y ; fun s x y = x - y ; fun m x y = x * y ; "
            + "fun n x = 999999999 * 3 + x ;");
        int[] numbers = {LEAST, LEAST + 1, -65536, -1, 0, 1, 46341, 65536, MOST - 1, MOST};
        for (int x : numbers) {
            for (int y : new int[] {LEAST, -1, 2, 65536, MOST}) {
                if (x != y) {
                    wraps(x, y);
                }
            }
        }
        run(house, 0, MOST, 1);
        due("the greatest and 1", shown(house, false), "-2147483648");
        run(house, 1, LEAST, 1);
        due("the least less 1", shown(house, false), "2147483647");
        run(house, 2, 46341, 46341);
        due("46341 squared", shown(house, false), "-2147479015");
        run(house, 2, LEAST, -1);
        due("the least times -1", shown(house, false), "-2147483648");
        run(house, 3, 0);
        due("999999999 * 3", shown(house, false), "-1294967299");
        house.plain(0, 9, MOST, MOST, 0, 0);
        due("plainly", shown(house, true), "-2");
    }

    private static void wraps(int x, int y) {
        ReuseHouse house = with("fun f x y = T(x + y, x - y, x * y) ;");
        String want = "T(" + (x + y) + "," + (x - y) + "," + x * y + ")";
        due("run", run(house, 0, x, y), 1);
        due("value for " + x + " and " + y, shown(house, false), want);
        due("plain", house.plain(0, 99, x, y, 0, 0), 1);
        due("other for " + x + " and " + y, shown(house, true), want);
    }

    private static void ifAndLess() {
        sentence = "(< gives 1 or 0), if wants an INT (0 is else)";
        ReuseHouse house = with("fun l x y = x < y ; fun i x = if x then 1 else 2 ;");
        int[][] pairs = {{0, 0, 0}, {0, 1, 1}, {1, 0, 0}, {-1, 0, 1}, {LEAST, MOST, 1}, {MOST, LEAST, 0},
            {LEAST, LEAST, 0}, {LEAST, 0, 1}, {-2, -1, 1}};
        for (int[] pair : pairs) {
            run(house, 0, pair[0], pair[1]);
            due(pair[0] + " < " + pair[1], shown(house, false), String.valueOf(pair[2]));
        }
        for (int x : new int[] {LEAST, -1, 0, 1, 2, 256, MOST}) {
            run(house, 1, x);
            due("if " + x, shown(house, false), x == 0 ? "2" : "1");
        }
    }

    private static void ended() {
        sentence = "It ends: 1 ENDED";
        ReuseHouse house = with("fun f a = P(A(a), B) ; fun g a = a ; fun h a = B ; fun i a = f(a) ;");
        String[] values = {"P(A(4),B)", "4", "B", "P(A(4),B)"};
        for (int f = 0; f < 4; f++) {
            due("run of " + f, run(house, f, 4), 1);
            due("where", house.where(), -1);
            due("value", shown(house, false), values[f]);
            due("plain of " + f, house.plain(f, 99, 4, 0, 0, 0), 1);
            due("where", house.where(), -1);
            due("other", shown(house, true), values[f]);
        }
    }

    private static void stuck() {
        sentence = "2 STUCK: another value than is wanted (at the sign, the if, the match)";
        for (String sign : new String[] {"+", "-", "*", "<"}) {
            stops(2, "fun f a = A ^" + sign + " 1 ;", 99, 0);
            stops(2, "fun f a = 1 ^" + sign + " A ;", 99, 0);
            stops(2, "fun f a = A(1) ^" + sign + " 1 ;", 99, 0);
            stops(2, "fun f a = 1 ^" + sign + " A(1) ;", 99, 0);
            stops(2, "fun f a = A ^" + sign + " B(1) ;", 99, 0);
        }
        stops(2, "fun f a = ^if A then 1 else 2 ;", 99, 0);
        stops(2, "fun f a = ^if A(1) then 1 else 2 ;", 99, 0);
        stops(2, "fun f a = 1 + (^if B then 1 else 2) ;", 99, 0);
        sentence = "2 STUCK: asked when its operands are there, of + - * < the left one first";
        stops(2, "fun f a = A + (1 ^+ B) ;", 99, 0);
        stops(2, "fun f a = (A ^+ 1) + (1 + B) ;", 99, 0);
        stops(2, "fun f a = A ^+ 1 + B ;", 99, 0);
        stops(2, "fun f a = 2 * 1 ^* B ;", 99, 0);
        stops(5, "fun f a = A + ^1 ;", 2, 0);
        stops(4, "fun f a = A + ^f(a) ;", 20000, 0);
        stops(2, "fun f a = if 1 ^< A then 1 else 2 ;", 99, 0);
        sentence = "2 STUCK: or no ARM fits (at the match)";
        stops(2, "fun f a = ^match a { A -> 1 } ;", 99, 0);
        stops(2, "fun f a = ^match a { A -> 1 | B(b) -> 2 } ;", 99, 0);
        stops(2, "fun f a = let b = B in ^match b { A -> 1 } ;", 99, 0);
        stops(2, "fun f a = let b = B(1) in ^match b { A -> 1 | C(c) -> 2 } ;", 99, 0);
        stops(2, "fun f a = g(A) ; fun g a = ^match a { B -> 1 } ;", 99, 0);
    }

    private static void full() {
        sentence = "3 FULL: a free cell is wanted, and all are held (at the KIND)";
        ReuseHouse house = with("fun f a = P(A(1), B(2)) ; fun g a = let b = A(1) in B(2) ;");
        int[] places = {12, 18, 10};
        for (int cells = 0; cells < 3; cells++) {
            due("run with " + cells, house.run(0, cells, 99, 0, 0, 0, 0), 3);
            due("where", house.where(), places[cells]);
            due("made", house.count(1), cells);
            due("held", house.count(6), 0);
            due("no value", house.show(false), -1);
            due("nothing to release", house.release(), -1);
        }
        due("3 cells", house.run(0, 3, 99, 0, 0, 0, 0), 1);
        due("1 cell that is freed ahead", house.run(1, 1, 99, 0, 0, 0, 0), 1);
        due("made", house.count(1), 2);
        sentence = "A KIND with fields: behind its arguments it takes a free cell";
        due("STEPS of all arguments", house.run(0, 2, 99, 0, 0, 0, 0), 3);
        due("steps", house.count(0), 5);
        due("CUT ahead of FULL", house.run(0, 0, 1, 0, 0, 0, 0), 5);
        due("where", house.where(), 12);
    }

    private static void fullWithShells() {
        sentence = "3 FULL: all are held (SHELLS too)";
        String text = "fun f a = let b = P(1, 2) in match b { P(c, d) -> let e = A(c) in P(e, d) } ;";
        ReuseHouse house = with(text);
        due("1 cell, held as a shell", house.run(0, 1, 99, 0, 0, 0, 0), 3);
        due("where", house.where(), text.indexOf("A(c)"));
        due("2 cells", house.run(0, 2, 99, 0, 0, 0, 0), 1);
        due("most held", house.count(4), 2);
        counts("fun f a = let b = P(1, 2) in match b { P(c, d) -> A(c) } ;", 1, 99, 0, "1: 2 0 1 1 0 1");
        counts("fun f a = let b = P(1, 2) in match b { P(c, d) -> Q(c, d) } ;", 1, 99, 0, "1: 1 1 0 1 0 1");
    }

    private static void deep() {
        sentence = "4 DEEP: a 101st call would be open (at its NAME; the first one is open)";
        String text = "fun f n = if n then f(n - 1) else 0 ; fun g n = if n then g(n - 1) else h ; fun h = 5 ;";
        ReuseHouse house = with(text);
        due("100 calls", house.run(0, 0, 20000, 99, 0, 0, 0), 1);
        due("open", house.count(7), 100);
        due("101 calls", house.run(0, 0, 20000, 100, 0, 0, 0), 4);
        due("where", house.where(), text.indexOf("f(n - 1)"));
        due("open", house.count(7), 100);
        due("100 calls plainly", house.plain(0, 20000, 99, 0, 0, 0), 1);
        due("101 calls plainly", house.plain(0, 20000, 100, 0, 0, 0), 4);
        due("where", house.where(), text.indexOf("f(n - 1)"));
        due("a NAME alone as the 100th", house.run(1, 0, 20000, 98, 0, 0, 0), 1);
        due("open", house.count(7), 100);
        due("a NAME alone as the 101st", house.run(1, 0, 20000, 99, 0, 0, 0), 4);
        due("where", house.where(), text.indexOf("h ;"));
        due("open", house.count(7), 100);
        sentence = "4 DEEP: calls that are over are open no more";
        stops(4, "fun f n = ^g(n) + g(n) + f(n) ; fun g n = n ;", 20000, 0);
        house = with("fun f n = g(n)" + " + g(n)".repeat(150) + " ; fun g n = 1 ;");
        due("151 calls one behind the other", house.run(0, 0, 20000, 0, 0, 0, 0), 1);
        due("open", house.count(7), 2);
        sentence = "4 DEEP: A CALL: its arguments, then the FUNCTION's EXPR with these";
        stops(2, "fun f n = if n < 99 then f(n + 1) else f(A ^+ 1) ;", 20000, 0);
        stops(4, "fun f n = if n < 99 then f(n + 1) else ^f(A) ;", 20000, 0);
        stops(4, "fun f n = if n < 99 then f(n + 1) else f(^g) ; fun g = 1 ;", 20000, 0);
    }

    private static void cut() {
        sentence = "5 CUT: a STEP more than allowed would begin (at its first TOKEN; of a sign at the sign)";
        String[] texts = {"fun f a = ^let b = (1 + 2) in if b then A(b) else a ;",
            "fun f a = let b = (1 ^+ 2) in if b then A(b) else a ;",
            "fun f a = let b = (^1 + 2) in if b then A(b) else a ;",
            "fun f a = let b = (1 + ^2) in if b then A(b) else a ;",
            "fun f a = let b = (1 + 2) in ^if b then A(b) else a ;",
            "fun f a = let b = (1 + 2) in if ^b then A(b) else a ;",
            "fun f a = let b = (1 + 2) in if b then ^A(b) else a ;",
            "fun f a = let b = (1 + 2) in if b then A(^b) else a ;"};
        for (int steps = 0; steps < texts.length; steps++) {
            stops(5, texts[steps], steps, 0);
        }
        due("enough", with(texts[0].replace("^", "")).run(0, 9, 8, 0, 0, 0, 0), 1);
        String[] others = {"fun f a = a * 2 - g ^< 4 ; fun g = B ;", "fun f a = a * 2 ^- g < 4 ; fun g = B ;",
            "fun f a = a ^* 2 - g < 4 ; fun g = B ;", "fun f a = ^a * 2 - g < 4 ; fun g = B ;",
            "fun f a = a * ^2 - g < 4 ; fun g = B ;", "fun f a = a * 2 - ^g < 4 ; fun g = B ;",
            "fun f a = a * 2 - g < 4 ; fun g = ^B ;"};
        for (int steps = 0; steps < others.length; steps++) {
            stops(5, others[steps], steps, 0);
        }
        stops(2, "fun f a = a * 2 ^- g < 4 ; fun g = B ;", 7, 0);
        stops(5, "fun f a = ^match a { _ -> g(a) } ; fun g b = b ;", 0, 0);
        stops(5, "fun f a = match a { _ -> ^g(a) } ; fun g b = b ;", 1, 0);
        stops(5, "fun f a = match a { _ -> g(^a) } ; fun g b = b ;", 2, 0);
        stops(5, "fun f a = match a { _ -> g(a) } ; fun g b = ^b ;", 3, 0);
    }

    private static void fromTheLeft() {
        sentence = "WORK goes from the left: a let's first EXPR, then its second; operands, arguments one behind the other";
        stops(2, "fun f a = let b = 1 ^+ B in 1 - B ;", 99, 0);
        stops(2, "fun f a = let b = 1 in 1 ^- B ;", 99, 0);
        stops(2, "fun f a = (1 ^* B) + (1 - B) ;", 99, 0);
        stops(2, "fun f a = 1 + 2 * (3 ^* B) - (1 - B) ;", 99, 0);
        stops(2, "fun f a = T(1 ^* B, 1 + B, 1 - B) ;", 99, 0);
        stops(2, "fun f a = T(1, 1 ^+ B, 1 - B) ;", 99, 0);
        stops(2, "fun f a = T(1, 1, 1 ^- B) ;", 99, 0);
        stops(2, "fun f a = g(1 ^* B, 1 + B) ; fun g x y = 1 - B ;", 99, 0);
        stops(2, "fun f a = g(1, 1 ^+ B) ; fun g x y = 1 - B ;", 99, 0);
        stops(2, "fun f a = g(1, 2) ; fun g x y = 1 ^- B ;", 99, 0);
        sentence = "WORK: of the ways the one that is taken, alone";
        stops(2, "fun f a = if a then 1 + B else 1 ^- B ;", 99, 0);
        stops(2, "fun f a = if a then 1 ^+ B else 1 - B ;", 99, 1);
        stops(2, "fun f a = if 1 ^< B then 1 + B else 1 - B ;", 99, 1);
        stops(2, "fun f a = match a { B -> 1 + B | _ -> 1 ^- B } ;", 99, 1);
    }

    private static void armsFit() {
        sentence = "An ARM fits its KIND; _ fits all values; the first ARM that fits is taken";
        ReuseHouse house = with("fun f v = match v { A -> 1 | B(b) -> 2 | C(c, d) -> 3 | _ -> 4 } ; "
            + "fun a = f(A) ; fun b = f(B(A)) ; fun c = f(C(A, A)) ; fun d = f(D) ; fun e = f(E(1)) ; fun g = f(7) ; "
            + "fun h = let x = Z(1) in match x { _ -> 5 } ;");
        String[] values = {"1", "2", "3", "4", "4", "4", "5"};
        for (int i = 0; i < values.length; i++) {
            due("run of " + (i + 1), run(house, i + 1), 1);
            due("value", shown(house, false), values[i]);
            due("plain of " + (i + 1), house.plain(i + 1, 99, 0, 0, 0, 0), 1);
            due("other", shown(house, true), values[i]);
        }
    }

    private static void uses() {
        sentence = "A USE of a NAME: if it is NEEDED behind this, the value is DOUBLED (a cell's count goes up by one)";
        counts("fun f a = let b = A(a) in b ;", 9, 99, 1, "1: 1 0 0 1 0 1");
        counts("fun f a = let b = A(a) in P(b, b) ;", 9, 99, 1, "1: 2 0 0 2 1 2");
        counts("fun f a = let b = A(a) in T(b, b, b) ;", 9, 99, 1, "1: 2 0 0 2 2 2");
        counts("fun f a = let b = A in T(b, b, b) ;", 9, 99, 1, "1: 1 0 0 1 0 1");
        counts("fun f a = T(a, a, a) ;", 9, 99, 1, "1: 1 0 0 1 0 1");
        sentence = "NEEDED: the way that will be taken or, where that is open, any of the ways, and what is behind the whole";
        counts("fun f a = let b = A(a) in P(b, if a then 1 else b) ;", 9, 99, 1, "1: 2 0 0 2 1 2");
        counts("fun f a = let b = A(a) in P(b, if a then b else 1) ;", 9, 99, 1, "1: 2 0 0 2 1 2");
        counts("fun f a = let b = A(a) in P(if a then b else 1, 2) ;", 9, 99, 1, "1: 2 0 0 2 0 2");
        counts("fun f a = let b = A(a) in P(if a then b else 1, b) ;", 9, 99, 1, "1: 2 0 0 2 1 2");
        counts("fun f a = let b = A(a) in P(b, match a { B -> b | _ -> 1 }) ;", 9, 99, 1, "1: 2 0 0 2 1 2");
        counts("fun f a = let b = A(a) in P(if a then b else b, 1) ;", 9, 99, 1, "1: 2 0 0 2 0 2");
        counts("fun f a = g(A(a)) ; fun g b = P(b, h(b)) ; fun h b = b ;", 9, 99, 1, "1: 2 0 0 2 1 2");
        sentence = "NEEDED: a NAME that is told again elsewhere is another one";
        counts("fun f a = P((let b = A(a) in b), (let b = A(a) in b)) ;", 9, 99, 1, "1: 3 0 0 3 0 3");
        counts("fun f a = P((let b = A(a) in b), match a { B(b) -> b | _ -> 1 }) ;", 9, 99, 1, "1: 2 0 0 2 0 2");
        counts("fun f a = let c = A(A(a)) in P((let b = A(a) in b), match c { A(b) -> b }) ;", 9, 99, 1, "1: 4 0 1 3 0 3");
        sentence = "DROP of a value: a cell's count goes down by one; at 0 its fields are DROPPED and it is FREED";
        counts("fun f a = let b = A(A(A(a))) in 1 ;", 9, 99, 1, "1: 3 0 3 3 0 0");
        counts("fun f a = let b = A(a) in let c = P(b, b) in 1 ;", 9, 99, 1, "1: 2 0 2 2 1 0");
        counts("fun f a = let b = A(a) in let c = P(b, b) in b ;", 9, 99, 1, "1: 2 0 1 2 2 1");
    }

    private static void dropsAtOnce() {
        sentence = "A NAME that gets a value (told, by let, by an ARM) and isn't NEEDED is DROPPED at once";
        counts("fun f a = let b = A(a) in 1 ;", 9, 3, 1, "5: 1 0 1 1 0 0");
        counts("fun f a = g(A(a), 2, A(a)) ; fun g b c d = 1 ;", 9, 6, 1, "5: 2 0 2 2 0 0");
        counts("fun f a = g(A(a), A(2)) ; fun g b c = c ;", 9, 5, 1, "5: 2 0 1 2 0 0");
        counts("fun f a = let b = A(A(a)) in match b { A(c) -> 1 } ;", 9, 5, 1, "5: 2 0 2 2 0 0");
        sentence = "(those told, in order, ahead of all else; a field isn't taken out)";
        counts("fun f a = g(A(a)) ; fun g b = A(1) ;", 1, 99, 1, "1: 2 0 1 1 0 1");
        counts("fun f a = let b = A(B(1)) in P(match b { A(c) -> 1 }, b) ;", 9, 99, 1, "1: 3 0 0 3 0 3");
    }

    private static void dropsAsAWayBegins() {
        sentence = "When a way begins (then, else, an ARM) all NAMES that are not NEEDED in it or behind are DROPPED";
        String ways = "fun f a = let b = A(1) in let c = P(2, 3) in if a then b else c ;";
        counts(ways, 9, 9, 1, "5: 2 0 1 2 0 0");
        counts(ways, 9, 10, 1, "1: 2 0 1 2 0 1");
        counts(ways, 9, 9, 0, "5: 2 0 1 2 0 0");
        counts("fun f a = let b = A(1) in if a then 1 else b ;", 9, 5, 1, "5: 1 0 1 1 0 0");
        counts("fun f a = let b = A(1) in P(if a then 1 else b, b) ;", 9, 99, 1, "1: 2 0 0 2 0 2");
        counts("fun f a = let b = A(1) in match a { B -> b | _ -> 1 } ;", 9, 4, 1, "5: 1 0 1 1 0 0");
        counts("fun f a = let b = A(1) in let d = D in match d { D -> 1 | _ -> b } ;", 9, 6, 1, "5: 1 0 1 1 0 0");
        sentence = "an ARM behind its fields: its NAMES are DROPPED behind them";
        counts("fun f a = let b = A(1) in let c = P(b, 2) in match c { P(d, e) -> if e then d else b } ;", 9, 99, 1,
            "1: 2 0 1 2 1 1");
        counts("fun f a = let b = A(1) in let c = Q(b) in match b { A(d) -> A(d) | _ -> c } ;", 9, 99, 1,
            "1: 3 0 2 2 1 1");
    }

    private static void matchOfAny() {
        sentence = "Of _: if the NAME is not NEEDED, its value is DROPPED.";
        counts("fun f a = let b = A(1) in match b { _ -> 1 } ;", 9, 4, 0, "5: 1 0 1 1 0 0");
        counts("fun f a = let b = A(1) in match b { _ -> A(2) } ;", 1, 99, 0, "1: 2 0 1 1 0 1");
        counts("fun f a = let b = A(1) in match b { B -> 1 | _ -> b } ;", 1, 99, 0, "1: 1 0 0 1 0 1");
        counts("fun f a = let b = A(1) in P(match b { _ -> 1 }, b) ;", 9, 99, 0, "1: 2 0 0 2 0 2");
        counts("fun f a = match a { _ -> 1 } ;", 0, 99, 0, "1: 0 0 0 0 0 0");
    }

    private static void matchOfAKind() {
        String pair = "fun f a = let b = P(A(1), A(2)) in ";
        sentence = "Of a KIND: if the NAME is NEEDED in it or behind, each field that is NEEDED is DOUBLED.";
        counts(pair + "match b { P(c, d) -> T(b, c, d) } ;", 9, 99, 0, "1: 4 0 0 4 2 4");
        counts(pair + "match b { P(c, d) -> Q(b, c) } ;", 9, 99, 0, "1: 4 0 0 4 1 4");
        counts(pair + "match b { P(c, d) -> b } ;", 9, 99, 0, "1: 3 0 0 3 0 3");
        counts(pair + "Q(match b { P(c, d) -> d }, b) ;", 9, 99, 0, "1: 4 0 0 4 1 4");
        sentence = "Else it is gone: of a cell with count 1 the NEEDED fields are taken, the others DROPPED";
        counts(pair + "match b { P(c, d) -> c } ;", 9, 99, 0, "1: 3 0 2 3 0 1");
        counts(pair + "match b { P(c, d) -> 1 } ;", 9, 7, 0, "5: 3 0 3 3 0 0");
        counts(pair + "match b { P(c, d) -> U(c, d, 1) } ;", 9, 99, 0, "1: 4 0 1 3 0 3");
        sentence = "with another count the NEEDED fields are DOUBLED, and the count goes down";
        String twice = "fun f a = let b = P(A(1), A(2)) in let e = Q(b) in match b { P(c, d) -> ";
        counts(twice + "T(c, d, e) } ;", 9, 99, 0, "1: 5 0 0 5 3 5");
        counts(twice + "R(c, e) } ;", 9, 99, 0, "1: 5 0 0 5 2 5");
        counts(twice + "e } ;", 9, 99, 0, "1: 4 0 0 4 1 4");
        sentence = "Of a KIND without fields: there is no cell";
        counts("fun f a = let b = B in match b { B -> A(1) } ;", 1, 99, 0, "1: 1 0 0 1 0 1");
    }

    private static void shells() {
        String pair = "fun f a = let b = P(1, 2) in match b { P(c, d) -> ";
        sentence = "the cell is kept as a SHELL if the ARM's EXPR has a KIND with as many fields as it in it somewhere, else FREED";
        counts(pair + "Q(c, d) } ;", 1, 99, 0, "1: 1 1 0 1 0 1");
        counts(pair + "T(c, d, 1) } ;", 1, 99, 0, "1: 2 0 1 1 0 1");
        counts(pair + "B(c) } ;", 1, 99, 0, "1: 2 0 1 1 0 1");
        counts(pair + "let e = B(c) in Q(e, d) } ;", 9, 99, 0, "1: 2 1 0 2 0 2");
        counts(pair + "g(c) } ; fun g x = Q(x, x) ;", 1, 99, 0, "1: 2 0 1 1 0 1");
        counts("fun f a = let b = P(1, 2) in R(match b { P(c, d) -> c }, 3) ;", 1, 99, 0, "1: 2 0 1 1 0 1");
        sentence = "A KIND with fields: it takes the latest SHELL of as many fields that this call of a FUNCTION keeps (REUSED)";
        counts("fun f a = let b = P(1, 2) in let e = B(3) in match b { P(c, d) -> match e { B(g) -> "
            + "U(P(c, d), B(g), 4) } } ;", 9, 99, 0, "1: 3 2 0 3 0 3");
        counts("fun f a = let b = P(1, 2) in let e = P(3, 4) in match b { P(c, d) -> match e { P(g, h) -> "
            + "P(P(c, d), P(g, h)) } } ;", 9, 99, 0, "1: 3 2 0 3 0 3");
        counts(pair + "P(Q(c, d), 3) } ;", 9, 99, 0, "1: 2 1 0 2 0 2");
        counts("fun f a = let b = P(1, 2) in let e = P(3, 4) in match b { P(c, d) -> "
            + "let x = match e { P(g, h) -> Q(g, h) } in Q(x, c) } ;", 9, 99, 0, "1: 2 2 0 2 0 2");
        counts(pair + "if a then Q(c, d) else g(c) } ; fun g x = Q(x, x) ;", 9, 99, 0, "1: 2 0 1 2 0 1");
        counts(pair + "let e = g(c) in Q(e, d) } ; fun g x = Q(x, x) ;", 9, 99, 0, "1: 2 1 0 2 0 2");
        counts("fun f a = let b = P(1, 2) in let e = B(3) in match b { P(c, d) -> "
            + "let x = match e { B(g) -> R(g, c) } in Q(x, d) } ;", 9, 99, 0, "1: 3 1 1 2 0 2");
        sentence = "REUSED: count 1";
        counts(pair + "let e = Q(c, d) in match e { Q(g, h) -> P(h, g) } } ;", 1, 99, 0, "1: 1 2 0 1 0 1");
    }

    private static void shellsLeft() {
        sentence = "SHELLS that an ARM has left when its EXPR has its value are FREED";
        counts("fun f a = let b = P(1, 2) in match b { P(c, d) -> if a then c else Q(c, d) } ;", 9, 99, 1,
            "1: 1 0 1 1 0 0");
        counts("fun f a = let b = P(1, 2) in match b { P(c, d) -> if a then c else Q(c, d) } ;", 9, 99, 0,
            "1: 1 1 0 1 0 1");
        counts("fun f a = let b = P(1, 2) in let e = match b { P(c, d) -> if a then c else Q(c, d) } in B(e) ;", 1, 99, 1,
            "1: 2 0 1 1 0 1");
        counts("fun f a = let b = P(1, 2) in match b { P(c, d) -> if a then g(c) else Q(c, d) } ; fun g x = B(x) ;",
            1, 99, 1, "3: 1 0 0 1 0 0");
        counts("fun f a = let b = P(1, 2) in let e = P(3, 4) in match b { P(c, d) -> match e { P(g, h) -> "
            + "if a then c else P(P(c, d), P(g, h)) } } ;", 9, 99, 1, "1: 2 0 2 2 0 0");
        counts("fun f a = let b = P(1, 2) in let e = P(3, 4) in match b { P(c, d) -> match e { P(g, h) -> "
            + "if a then P(c, g) else P(P(c, d), P(g, h)) } } ;", 9, 99, 1, "1: 2 1 1 2 0 1");
    }

    private static void stepsOf(int want, String text) {
        ReuseHouse house = with(text);
        due("run of " + text, house.run(0, 400, want, 1, 0, 0, 0), 1);
        due("STEPS of " + text, house.count(0), want);
        due("plain of " + text, house.plain(0, want, 1, 0, 0, 0), 1);
        due("one STEP less of " + text, house.run(0, 400, want - 1, 1, 0, 0, 0), 5);
        due("one STEP less, plainly, of " + text, house.plain(0, want - 1, 1, 0, 0, 0), 5);
    }

    private static void steps() {
        sentence = "A STEP each time an EXPR's work begins";
        stepsOf(1, "fun f a = 1 ;");
        stepsOf(1, "fun f a = a ;");
        stepsOf(1, "fun f a = A ;");
        stepsOf(2, "fun f a = A(a) ;");
        stepsOf(4, "fun f a = T(a, 1, B) ;");
        stepsOf(2, "fun f a = g ; fun g = 1 ;");
        stepsOf(4, "fun f a = g(a, 1) ; fun g x y = y ;");
        stepsOf(3, "fun f a = let b = 1 in b ;");
        stepsOf(3, "fun f a = if a then 1 else 2 + 3 ;");
        stepsOf(2, "fun f a = match a { A -> 2 + 3 | _ -> 1 } ;");
        stepsOf(3, "fun f a = a < 1 ;");
        stepsOf(9, "fun f a = a * 2 + 3 - 4 < 5 ;");
        sentence = "(brackets, a single PART or SUM are none of their own)";
        stepsOf(1, "fun f a = (((a))) ;");
        stepsOf(3, "fun f a = ((1) + (2)) ;");
    }

    private static void plainCells() {
        sentence = "plain: with cells that are never freed or doubled, as many as are wanted (FULL: a 4,001st)";
        String twenty = "A(".repeat(20) + "0" + ")".repeat(20);
        String text = "fun f n m = let a = g(n) in let b = g(n) in let c = h(m) in B(1) ; "
            + "fun g n = if n then let x = " + twenty + " in let y = " + twenty + " in g(n - 1) else N ; "
            + "fun h n = if n then let x = A(2) in h(n - 1) else N ;";
        ReuseHouse house = with(text);
        due("4,000 cells", house.plain(0, 20000, 49, 79, 0, 0), 1);
        due("its value", shown(house, true), "B(1)");
        due("a 4,001st", house.plain(0, 20000, 49, 80, 0, 0), 3);
        due("where", house.where(), text.indexOf("B(1)"));
        due("no other any more", house.show(true), -1);
        due("a 4,001st ahead of that", house.plain(0, 20000, 49, 81, 0, 0), 3);
        due("where", house.where(), text.indexOf("A(2)"));
        due("all are there again", house.plain(0, 20000, 49, 79, 0, 0), 1);
        due("a run that frees them", house.run(0, 20, 20000, 49, 79, 0, 0), 1);
        due("made", house.count(1), 4000);
        due("most held", house.count(4), 20);
        house = with(FIVES + "fun i n = T(f(n, 0), f(n, 0), 0) ; ");
        due("more than 400 plainly", house.plain(3, 20000, 90, 0, 0, 0), 1);
        due("more than 400 counted", house.run(3, 400, 20000, 90, 0, 0, 0), 3);
        due("401 plainly", house.plain(2, 20000, 80, 0, 0, 0), 1);
    }

    private static void plainLeavesTheRun() {
        sentence = "plain: COUNTS and the value are as of the latest run(). Its value is THE OTHER.";
        ReuseHouse house = with("fun f a = let b = A(a) in P(b, b) ; fun g a = 1 + A(a) ;");
        due("plain ahead of any run", house.plain(0, 99, 1, 0, 0, 0), 1);
        for (int what = 0; what <= 7; what++) {
            due("count(" + what + ") ahead of any run", house.count(what), -1);
        }
        due("no value ahead of any run", house.show(false), -1);
        due("nothing to release ahead of any run", house.release(), -1);
        due("the other", shown(house, true), "P(A(1),A(1))");
        due("run", run(house, 0, 2), 1);
        due("the other stays behind run()", shown(house, true), "P(A(1),A(1))");
        StringBuilder before = new StringBuilder();
        StringBuilder behind = new StringBuilder();
        for (int what = 0; what <= 7; what++) {
            before.append(house.count(what)).append(' ');
        }
        due("plain that ended", house.plain(0, 99, 3, 0, 0, 0), 1);
        due("plain that stopped", house.plain(1, 99, 3, 0, 0, 0), 2);
        due("where is plain()'s", house.where(), 48);
        for (int what = 0; what <= 7; what++) {
            behind.append(house.count(what)).append(' ');
        }
        due("counts", behind.toString(), before.toString());
        due("the value", shown(house, false), "P(A(2),A(2))");
        due("release", house.release(), 2);
        due("plain", house.plain(0, 99, 4, 0, 0, 0), 1);
        due("the value is released", house.show(false), -1);
        due("the other", shown(house, true), "P(A(4),A(4))");
        due("release frees none of the other", house.release(), -1);
        due("held", house.count(6), 0);
    }

    private static void showNone() {
        sentence = "show: NONE, OUT stays: there is none";
        ReuseHouse house = with("fun f a = A(a) ; fun g a = a + B ;");
        due("ahead of any run", house.show(false), -1);
        due("ahead of any plain", house.show(true), -1);
        due("OUT is empty", at(house, 0), THROWS);
        due("run", run(house, 0, 5), 1);
        due("no other yet", house.show(true), -1);
        due("show", house.show(false), 4);
        due("run that stops", run(house, 1, 5), 2);
        due("none behind it", house.show(false), -1);
        due("OUT stays", at(house, 2), '5');
        due("its length stays", at(house, 4), THROWS);
        due("run", run(house, 0, 6), 1);
        due("release", house.release(), 1);
        due("none behind release", house.show(false), -1);
        due("OUT stays", at(house, 2), '5');
        due("plain", house.plain(0, 99, 7, 0, 0, 0), 1);
        due("still none", house.show(false), -1);
        due("OUT stays", at(house, 2), '5');
        due("the other", shown(house, true), "A(7)");
        due("OUT is the other", at(house, 2), '7');
        due("run that is cut at once", house.run(0, 9, 0, 0, 0, 0, 0), 5);
        due("none", house.show(false), -1);
        due("OUT stays", at(house, 2), '7');
    }

    private static void showWhole() {
        sentence = "show: INTS in digits (- ahead), KINDS, their fields in ( ) with , between: how many bytes";
        ReuseHouse house = with("fun f a = a ; fun g a = Abcdefgh ; fun h a = T(A, B(0 - a), C(T(1, 2, D), Abcdefgh)) ;");
        int[] numbers = {0, 7, -7, 10, -10, 100, 999999999, 1000000000, -1000000000, MOST, LEAST, LEAST + 1};
        for (int number : numbers) {
            String digits = String.valueOf(number);
            run(house, 0, number);
            due("how many bytes", house.show(false), digits.length());
            due("run's", shown(house, false), digits);
            house.plain(0, 9, number, 0, 0, 0);
            due("plain's", shown(house, true), digits);
        }
        run(house, 1);
        due("a long kind", shown(house, false), "Abcdefgh");
        run(house, 2, 12);
        due("how many bytes", house.show(false), 32);
        due("fields", shown(house, false), "T(A,B(-12),C(T(1,2,D),Abcdefgh))");
    }

    private static void showFull() {
        sentence = "show: NONE, OUT stays: it would be more than 4,000";
        String text = "fun f a b = T(g(9), g(8), W(h(a), b)) ; "
            + "fun g n = if n then let x = g(n - 1) in V(x, x) else 1 ; fun h n = if n then I(h(n - 1)) else 1 ; ";
        ReuseHouse house = with(text);
        due("4,000 bytes", run(house, 0, 52, 10), 1);
        due("show", house.show(false), 4000);
        due("the first byte", at(house, 0), 'T');
        due("the last but three", at(house, 3996), '1');
        due("the last but two", at(house, 3997), '0');
        due("the last byte", at(house, 3999), ')');
        due("none behind it", at(house, 4000), THROWS);
        due("3,999 bytes", run(house, 0, 52, 1), 1);
        due("show", house.show(false), 3999);
        due("the last byte", at(house, 3998), ')');
        due("none behind it", at(house, 3999), THROWS);
        due("4,001 bytes", run(house, 0, 52, 100), 1);
        due("show", house.show(false), -1);
        due("OUT stays", at(house, 3998), ')');
        due("its length stays", at(house, 3999), THROWS);
        due("4,002 bytes", run(house, 0, 53, 1), 1);
        due("show", house.show(false), -1);
        due("OUT stays", at(house, 0), 'T');
        due("far more", run(house, 1, 30), 1);
        due("show", house.show(false), -1);
        due("its length stays", at(house, 3999), THROWS);
        due("the value is there yet", house.release(), 30);
        due("4,000 bytes plainly", house.plain(0, 20000, 52, 10, 0, 0), 1);
        due("show", house.show(true), 4000);
        due("4,001 bytes plainly", house.plain(0, 20000, 52, 100, 0, 0), 1);
        due("show", house.show(true), -1);
        due("OUT stays", at(house, 3999), ')');
        due("1 byte", run(house, 2, 0), 1);
        due("show", house.show(false), 1);
        due("none behind it", at(house, 1), THROWS);
    }

    private static void outOutside() {
        sentence = "out: Byte i of OUT. NoSuchElementException if there is none such.";
        ReuseHouse house = with("fun f a = Kind(a) ; fun g a = a ;");
        int[] outside = {-1, -2, LEAST, 8, 9, 3999, 4000, 4001, MOST};
        for (int i : new int[] {LEAST, -1, 0, 1, MOST}) {
            due("out(" + i + ") of an empty OUT throws", at(house, i), THROWS);
        }
        run(house, 0, 12);
        due("OUT is empty ahead of show()", at(house, 0), THROWS);
        due("show", house.show(false), 8);
        String bytes = "Kind(12)";
        for (int i = 0; i < bytes.length(); i++) {
            due("out(" + i + ")", at(house, i), bytes.charAt(i));
        }
        for (int i : outside) {
            due("out(" + i + ") throws", at(house, i), THROWS);
        }
        run(house, 1, 3);
        due("show of less", house.show(false), 1);
        due("out(0)", at(house, 0), '3');
        due("out(1) throws", at(house, 1), THROWS);
        house.release();
        due("OUT stays behind release()", at(house, 0), '3');
        run(house, 0, 12);
        due("OUT stays behind run()", at(house, 0), '3');
        take(house, "fun f = 1 ;");
        due("OUT stays behind program()", at(house, 0), '3');
        due("out(1) throws", at(house, 1), THROWS);
    }

    private static void releaseNone() {
        sentence = "release: how many cells were FREED by that; NONE if there is none";
        ReuseHouse house = new ReuseHouse();
        due("of a new object", house.release(), -1);
        take(house, "fun f a = A(B(a)) ; fun g a = a ; fun h a = C ; fun i a = 1 + C ;");
        due("ahead of any run", house.release(), -1);
        due("run", run(house, 0, 1), 1);
        due("two cells", house.release(), 2);
        due("freed", house.count(3), 2);
        due("held", house.count(6), 0);
        due("a second time", house.release(), -1);
        due("freed stays", house.count(3), 2);
        due("a third time", house.release(), -1);
        due("run", run(house, 1, 1), 1);
        due("an INT has no cells", house.release(), 0);
        due("a second time", house.release(), -1);
        due("run", run(house, 2, 1), 1);
        due("a KIND alone has no cells", house.release(), 0);
        due("a second time", house.release(), -1);
        due("run", run(house, 0, 1), 1);
        due("run that stops", run(house, 3, 1), 2);
        due("none behind it", house.release(), -1);
        due("run", run(house, 0, 1), 1);
        due("a run that is refused", house.run(0, 401, 9, 0, 0, 0, 0), -1);
        due("the former is there yet", house.release(), 2);
        due("run", run(house, 0, 1), 1);
        due("a program that is refused", take(house, "fun f = "), -1);
        due("the former is there yet", house.release(), 2);
        due("run", run(house, 0, 1), 1);
        due("a program that is taken", take(house, "fun f = 1 ;"), 1);
        due("none behind it", house.release(), -1);
    }

    private static void releaseShared() {
        sentence = "release: The value of the latest run() is DROPPED";
        ReuseHouse house = with(FIVES + "fun i n = let b = A(n) in let c = T(b, b, b) in P(c, T(c, b, c)) ; ");
        due("run", run(house, 3, 1), 1);
        due("doubled", house.count(5), 5);
        due("held", house.count(6), 4);
        due("each cell once", house.release(), 4);
        due("held", house.count(6), 0);
        due("400 in a row", run(house, 1, 80), 1);
        due("release", house.release(), 400);
        due("freed", house.count(3), 400);
        due("made stays", house.count(1), 400);
        due("most held stays", house.count(4), 400);
    }

    private static void countAheadAndOthers() {
        sentence = "count: NONE for others, and ahead of any.";
        ReuseHouse house = new ReuseHouse();
        due("of a new object", house.count(0), -1);
        take(house, "fun f a = a ;");
        for (int what = -1; what <= 8; what++) {
            due("count(" + what + ") ahead of any", house.count(what), -1);
        }
        house.plain(0, 9, 0, 0, 0, 0);
        house.run(0, 401, 9, 0, 0, 0, 0);
        due("ahead of any but a plain and one refused", house.count(7), -1);
        run(house, 0, 1);
        for (int what : new int[] {-1, -2, 8, 9, LEAST, MOST}) {
            due("count(" + what + ")", house.count(what), -1);
        }
        int[] want = {1, 0, 0, 0, 0, 0, 0, 1};
        for (int what = 0; what <= 7; what++) {
            due("count(" + what + ")", house.count(what), want[what]);
        }
    }

    private static void countEach() {
        sentence = "count: Of the latest run()";
        String text = "fun main n = turn(make(n), Nil) ; fun make n = if 0 < n then Cons(n, make(n - 1)) else Nil ; "
            + "fun turn l a = match l { Cons(x, y) -> turn(y, Cons(x, a)) | Nil -> a } ;";
        ReuseHouse house = with(text);
        int[][] wants = {{0, 400, 20000, 11, 0, 0, 0, 0, 0, 0, 2}, {3, 400, 20000, 59, 3, 3, 0, 3, 0, 3, 5},
            {3, 2, 20000, 38, 2, 0, 0, 2, 0, 0, 5}, {3, 3, 58, 58, 3, 3, 0, 3, 0, 0, 5}, {3, 3, 0, 0, 0, 0, 0, 0, 0, 0, 1}};
        for (int[] want : wants) {
            house.run(0, want[1], want[2], want[0], 0, 0, 0);
            for (int what = 0; what <= 7; what++) {
                due("count(" + what + ") of " + want[0] + " with " + want[1] + " cells", house.count(what), want[3 + what]);
            }
        }
        sentence = "count: 3 FREED (release() too), 6 how many are held now (0 behind one that has not ENDED)";
        house = with("fun f a = let b = A(a) in P(1, a) ; fun g a = P(A(a), 1 + B) ;");
        run(house, 0, 1);
        due("freed", house.count(3), 1);
        due("held", house.count(6), 1);
        due("release", house.release(), 1);
        due("freed", house.count(3), 2);
        due("held", house.count(6), 0);
        due("most held", house.count(4), 1);
        run(house, 1, 1);
        due("made", house.count(1), 1);
        due("freed", house.count(3), 0);
        due("held", house.count(6), 0);
        due("most held", house.count(4), 1);
        sentence = "count: 4 the most that were held at once (SHELLS too)";
        counts("fun f a = let b = P(1, 2) in match b { P(c, d) -> let e = A(c) in if a then e else P(e, d) } ;", 9, 99, 1,
            "1: 2 0 1 2 0 1");
        sentence = "count: 7 the most calls that were open at once";
        house = with("fun f a = g(g(g(a))) + h ; fun g a = h ; fun h = 1 ;");
        run(house, 0, 1);
        due("one in another", house.count(7), 3);
        run(house, 2, 1);
        due("the first one", house.count(7), 1);
    }

    private static void manyCalls() {
        sentence = "An object is used for at most 512 calls after it has been made";
        ReuseHouse house = new ReuseHouse();
        int calls = 0;
        for (int i = 0; i < 51; i++) {
            String text = i % 2 == 0 ? "fun f a = A(a, 1) ;" : "fun f a b = a + B ;";
            due("program " + i, take(house, text), 1);
            due("run " + i, run(house, 0, i), i % 2 == 0 ? 1 : 2);
            due("plain " + i, house.plain(0, 99, i, 0, 0, 0), i % 2 == 0 ? 1 : 2);
            due("about " + i, house.about(0, 0), i % 2 == 0 ? 1 : 2);
            due("show " + i, house.show(false), i % 2 == 0 ? 5 + String.valueOf(i).length() : -1);
            due("show other " + i, house.show(true), i % 2 == 0 ? 5 + String.valueOf(i).length() : -1);
            due("out " + i, at(house, 0), 'A');
            due("count " + i, house.count(1), i % 2 == 0 ? 1 : 0);
            due("release " + i, house.release(), i % 2 == 0 ? 1 : -1);
            calls += 10;
        }
        due("calls", calls, 510);
        due("feed, the 511th", house.feed(0, 0, 0, 0, 0), 20);
        due("program, the 512th", house.program(20), -1);
    }
}
