import java.util.ArrayDeque;
import java.util.ArrayList;
import java.util.List;
import java.util.Map;
import java.util.NoSuchElementException;
import java.util.Random;
import java.util.TreeMap;

/**
 * Many calls on one object, one behind the other: what a call changes, and what a refused one does
 * not change, is asked by the later ones. First a written story for each promise; then calls in
 * any order beside a ledger that keeps what the document says the house must know. The ledger works
 * no program: how each of its jobs ends was reckoned by hand.
 */
public final class ManyCalls {
    private static final int MOST_CALLS = 512;
    private static int wrong = 0;

    public static void main(String[] args) {
        Stories.tellAll();
        Map<String, Integer> seen = new TreeMap<>();
        for (int seed = 0; seed < 600; seed++) {
            new Ledger(seed, seen).goOn();
        }
        allWereSeen(seen);
        System.out.println(wrong == 0 ? "many calls behind one another are answered as due"
            : wrong + " answers are not as due");
        if (wrong != 0) {
            System.exit(1);
        }
    }

    private static void due(String what, String got, String want) {
        if (!got.equals(want)) {
            wrong++;
            if (wrong < 30) {
                System.out.println(what + " answered " + got + ", due is " + want);
            }
        }
    }

    /** Each call of the face must have been answered and refused, where it can be. */
    private static void allWereSeen(Map<String, Integer> seen) {
        List<String> wanted = new ArrayList<>(List.of("fault 0", "where none", "where some"));
        for (String call : List.of("feed", "program", "about", "run", "plain", "show run", "show other", "out",
            "release", "count")) {
            wanted.add(call + " refused");
            wanted.add(call + " answered");
        }
        for (int i = 1; i <= 5; i++) {
            wanted.addAll(List.of("fault " + i, "run ends by " + i, "plain ends by " + i));
        }
        for (String what : wanted) {
            due("how often: " + what, seen.getOrDefault(what, 0) >= 20 ? "often" : "seldom", "often");
        }
    }

    /** The house, its calls written as words, and how many there were. */
    private static final class Caller {
        private final ReuseHouse house = new ReuseHouse();
        private int calls = 0;

        boolean hasLeft(int more) {
            return calls + more <= MOST_CALLS;
        }

        /** A call such as "run 0 400 99 1 2 3 4". */
        String call(String line) {
            calls++;
            String[] words = line.split(" ");
            int[] n = new int[7];
            for (int i = 1; i < words.length && !words[0].equals("show"); i++) {
                n[i - 1] = Integer.parseInt(words[i]);
            }
            switch (words[0]) {
                case "feed": return "" + house.feed(n[0], n[1], n[2], n[3], n[4]);
                case "program": return "" + house.program(n[0]);
                case "fault": return "" + house.fault();
                case "where": return "" + house.where();
                case "about": return "" + house.about(n[0], n[1]);
                case "run": return "" + house.run(n[0], n[1], n[2], n[3], n[4], n[5], n[6]);
                case "plain": return "" + house.plain(n[0], n[1], n[2], n[3], n[4], n[5]);
                case "show": return "" + house.show(words[1].equals("other"));
                case "out": return outOrThrows(n[0]);
                case "release": return "" + house.release();
                case "count": return "" + house.count(n[0]);
                default: return "no such call: " + line;
            }
        }

        private String outOrThrows(int i) {
            try {
                return "" + house.out(i);
            } catch (NoSuchElementException none) {
                return "throws";
            }
        }

        String counts() {
            StringBuilder text = new StringBuilder();
            for (int what = 0; what < 8; what++) {
                text.append(what == 0 ? "" : " ").append(call("count " + what));
            }
            return text.toString();
        }

        /** OUT from its first byte to the one that throws. */
        String out() {
            StringBuilder text = new StringBuilder();
            String sign = call("out 0");
            for (int i = 1; i <= 4001 && !sign.equals("throws"); i++) {
                text.append((char) Integer.parseInt(sign));
                sign = call("out " + i);
            }
            return text.toString();
        }
    }

    /** Twenty bytes of a text as the words of a feed; behind its end are blanks. */
    private static String feedOf(String text, int from) {
        StringBuilder line = new StringBuilder("feed");
        for (int i = 0; i < 5; i++) {
            int four = 0;
            for (int k = 0; k < 4; k++) {
                int at = from + i * 4 + k;
                four = four << 8 | (at < text.length() ? text.charAt(at) : ' ');
            }
            line.append(' ').append(four);
        }
        return line.toString();
    }

    /** Written runs of calls, each on one object. */
    private static final class Stories {
        private static final String LISTS = "fun make n = if 0 < n then Cons(n, make(n - 1)) else Nil ; "
            + "fun turn l a = match l { Cons(x, y) -> turn(y, Cons(x, a)) | Nil -> a } ; "
            + "fun main n = turn(make(n), Nil) ;";
        private static final int BUILT = LISTS.indexOf("Cons(n");
        private static final int CALLED = LISTS.indexOf("make(n - 1)");
        private static final int MATCH = LISTS.indexOf("match");
        private static final int LAST_STEP = LISTS.indexOf("a } ;");
        private static final int FIRST_STEP = LISTS.indexOf("turn(make");

        static void tellAll() {
            newObject();
            feed();
            program();
            faultAndWhere();
            about();
            run();
            runAgain();
            stopsLeaveNothing();
            longTexts();
            plain();
            show();
            out();
            release();
            count();
            asReadmeTells();
        }

        /**
         * Each line is a call, " = ", and its answer. Besides the calls of the face: "take" feeds a
         * text and calls program(), "counts" asks count() 0 to 7, "bytes" asks all bytes of OUT.
         */
        private static void story(String name, String... lines) {
            Caller caller = new Caller();
            for (String line : lines) {
                int cut = line.lastIndexOf(" = ");
                String call = line.substring(0, cut);
                String told = call.substring(0, Math.min(150, call.length()));
                due(name + ": " + told, answer(caller, call), line.substring(cut + 3));
            }
            due(name + ": calls", caller.hasLeft(0) ? "few enough" : "too many", "few enough");
        }

        private static String answer(Caller caller, String call) {
            if (call.startsWith("take ")) {
                String text = call.substring(5);
                for (int i = 0; i < text.length(); i += 20) {
                    caller.call(feedOf(text, i));
                }
                return caller.call("program " + text.length());
            }
            return call.equals("counts") ? caller.counts() : call.equals("bytes") ? caller.out() : caller.call(call);
        }

        private static void newObject() {
            story("promise 1, a new object",
                "fault = 0", "where = -1", "about 0 0 = -1", "count 0 = -1", "show run = -1", "show other = -1",
                "out 0 = throws", "release = -1", "run 0 400 20000 1 2 3 4 = -1", "plain 0 20000 1 2 3 4 = -1",
                "count 0 = -1", "where = -1", "program 1 = -1", "fault = 0", "where = -1", "program 0 = -1",
                "fault = 1", "where = 0", "run 0 400 20000 1 2 3 4 = -1", "fault = 1", "where = 0", "about 0 0 = -1",
                "take fun f = 1 ; = 1", "fault = 0", "where = -1", "about 0 0 = 0", "count 0 = -1", "show run = -1",
                "release = -1", "run 0 0 1 0 0 0 0 = 1", "show run = 1", "out 0 = 49", "count 0 = 1");
        }

        private static void feed() {
            List<String> lines = new ArrayList<>();
            String first = feedOf("fun f a = K(a) ;", 0);
            String blanks = feedOf("", 0);
            for (int round = 0; round < 4; round++) {
                for (int i = 1; i <= 100; i++) {
                    lines.add((i == 1 ? first : blanks) + " = " + i * 20);
                }
                lines.addAll(List.of(blanks + " = -1", "program 2001 = -1", "fault = 0", first + " = -1",
                    "program -1 = -1", round % 2 == 0 ? "program 2000 = 1" : "program 16 = 1", "fault = 0",
                    "about 0 0 = 1",
                    "program 1 = -1", "fault = 0", "program 0 = -1", "fault = 1", "about 0 2 = 1",
                    "run 0 1 9 " + round + " 0 0 0 = 1", "show run = 4", "bytes = K(" + round + ")"));
            }
            story("promise 2, feed: four times to its end", lines.toArray(new String[0]));
        }

        private static void program() {
            story("promise 3, program: taken, refused, taken",
                "take fun f a = A(a) ; fun g = 2 ; = 2", "run 0 9 99 5 0 0 0 = 1", "plain 0 99 6 0 0 0 = 1",
                // A fault leaves the former program with its run, and THE TAPE is empty.
                "take fun f a = A(b ; = -1", "fault = 1", "where = 14", "about 0 0 = 1", "about 1 0 = 0",
                "program 1 = -1", "fault = 0", "where = -1", "program 0 = -1", "fault = 1", "where = 0",
                "show run = 4", "bytes = A(5)", "show other = 4", "bytes = A(6)", "counts = 2 1 0 0 1 0 1 1",
                // An n that is none leaves THE TAPE.
                feedOf("fun h a b = B(a, b) ;", 0) + " = 20", feedOf("fun h a b = B(a, b) ;", 20) + " = 40",
                "program 41 = -1", "fault = 0", "where = -1", "program -1 = -1", "program -2147483648 = -1",
                "program 2147483647 = -1", "about 1 0 = 0", "show run = 4", "program 21 = 1", "about 1 0 = -1",
                "about 0 0 = 2", "show run = -1", "show other = -1", "counts = -1 -1 -1 -1 -1 -1 -1 -1", "release = -1",
                "bytes = A(5)",
                "program 0 = -1", "run 0 9 99 7 8 0 0 = 1", "show run = 6", "bytes = B(7,8)", "run 1 9 99 7 8 0 0 = -1",
                // What stands behind the first n bytes is gone with them.
                feedOf("fun i = 3 ; fun j = ", 0) + " = 20", feedOf("4 ; ?", 0) + " = 40", "program 11 = 1",
                "program 1 = -1", "fault = 0", "about 1 0 = -1", "run 0 0 9 0 0 0 0 = 1", "show run = 1", "bytes = 3");
        }

        private static void faultAndWhere() {
            story("promises 4 and 5, fault and where",
                "take fun f a = if a then A + a else A ; = 1", "fault = 0", "where = -1",
                "run 0 9 99 1 0 0 0 = 2", "fault = 0", "where = 22", "run 0 9 99 0 0 0 0 = 1", "where = -1",
                "plain 0 99 1 0 0 0 = 2", "where = 22", "plain 0 1 1 0 0 0 = 5", "where = 13",
                "run 0 401 99 1 0 0 0 = -1", "where = 13", "plain 0 20001 1 0 0 0 = -1", "where = 13",
                "show run = 1", "where = 13", "release = 0", "where = 13", "count 0 = 3", "where = 13",
                "take fun f a a = 1 ; = -1", "fault = 3", "where = 8", "fault = 3", "where = 8",
                "run 0 9 99 0 0 0 0 = 1", "fault = 3", "where = -1", "run 0 9 0 0 0 0 0 = 5", "fault = 3", "where = 10",
                "run 1 9 99 0 0 0 0 = -1", "fault = 3", "where = 10",
                "take fun f = g ; = -1", "fault = 2", "where = 8", "take fun f = A(A(1), 2) ; = -1", "fault = 4",
                "where = 8", "take fun f = A(1, 2, 3, 4) ; = -1", "fault = 5", "where = 19",
                "take fun f = ? = -1", "fault = 1", "where = 8", "program 1 = -1", "fault = 0", "where = -1",
                "take fun f = 1 ; = 1", "fault = 0", "where = -1");
        }

        private static void about() {
            List<String> lines = new ArrayList<>();
            String other = "fun f a b c d e g = let h = a in match h { K(i) -> K(i) | T(j, k, l) -> T(j, k, h) "
                + "| _ -> P(K(a), K(b)) } ;";
            for (int round = 0; round < 5; round++) {
                lines.addAll(List.of("take " + LISTS + " = 3", "about 0 0 = 1", "about 0 1 = 1", "about 0 2 = 1",
                    "about 0 3 = 0", "about 0 4 = 0", "about 1 0 = 2", "about 1 1 = 4", "about 1 2 = 1",
                    "about 1 3 = 1", "about 1 4 = 1", "about 2 0 = 1", "about 2 4 = 0", "about 3 0 = -1",
                    "about -1 0 = -1",
                    "about 1 5 = -1", "about 1 -1 = -1", "about 2147483647 0 = -1", "about 0 -2147483648 = -1",
                    "run 1 400 99 1 0 0 0 = 2", "about 1 4 = 1",
                    "take fun f = ( ; = -1", "about 1 1 = 4",
                    // h is NEEDED in the second ARM; two KINDS in the third ARM are not of its own.
                    "take " + other + " = 1", "about 0 0 = 6", "about 0 1 = 10", "about 0 2 = 5", "about 0 3 = 1",
                    "about 0 4 = 1", "about 1 0 = -1"));
            }
            story("promise 6, about: program behind program", lines.toArray(new String[0]));
        }

        private static void run() {
            story("promise 7, run: each way to end, and refused ones between",
                "take " + LISTS + " = 3",
                "run 2 400 20000 3 0 0 0 = 1", "where = -1", "counts = 59 3 3 0 3 0 3 5", "show run = 27",
                "run 2 400 -1 3 0 0 0 = -1", "run 2 400 20001 3 0 0 0 = -1", "run 2 -1 99 3 0 0 0 = -1",
                "run 2 401 99 3 0 0 0 = -1", "run 3 400 99 3 0 0 0 = -1", "run -1 400 99 3 0 0 0 = -1",
                "where = -1", "counts = 59 3 3 0 3 0 3 5", "show run = 27",
                "run 1 400 20000 3 0 0 0 = 2", "where = " + MATCH, "counts = 1 0 0 0 0 0 0 1", "show run = -1",
                "release = -1",
                "run 2 2 20000 3 0 0 0 = 3", "where = " + BUILT, "counts = 38 2 0 0 2 0 0 5", "show run = -1",
                "run 2 401 99 3 0 0 0 = -1", "where = " + BUILT, "counts = 38 2 0 0 2 0 0 5",
                "run 2 400 20000 99 0 0 0 = 4", "where = " + CALLED, "counts = 993 0 0 0 0 0 0 100", "show run = -1",
                "run 2 400 58 3 0 0 0 = 5", "where = " + LAST_STEP, "counts = 58 3 3 0 3 0 0 5",
                "show run = -1", "bytes = Cons(1,Cons(2,Cons(3,Nil)))",
                "run 2 3 59 3 0 0 0 = 1", "where = -1", "counts = 59 3 3 0 3 0 3 5", "show run = 27",
                "run 2 0 11 0 0 0 0 = 1", "counts = 11 0 0 0 0 0 0 2", "show run = 3", "bytes = Nil",
                "run 2 0 0 0 0 0 0 = 5", "where = " + FIRST_STEP, "counts = 0 0 0 0 0 0 0 1");
        }

        /** The cells of a run that stopped, or was not released, are there again for the next one. */
        private static void runAgain() {
            List<String> lines = new ArrayList<>(List.of("take " + LISTS + " = 3"));
            for (int i = 0; i < 12; i++) {
                lines.addAll(List.of("run 2 9 20000 10 0 0 0 = 3", "counts = 108 9 0 0 9 0 0 12",
                    "run 2 10 20000 10 0 0 0 = 1", "counts = 171 10 10 0 10 0 10 12",
                    "run 2 400 20000 98 0 0 0 = 1", "counts = 1579 98 98 0 98 0 98 100",
                    i % 2 == 0 ? "release = 98" : "count 6 = 98", "run 2 98 1578 98 0 0 0 = 5", "release = -1",
                    "run 0 1 15 1 0 0 0 = 1", "show run = 11"));
            }
            story("promise 7, run: all cells are there again", lines.toArray(new String[0]));
        }

        /** What was under way as a run stopped (calls, SHELLS, values that wait) is gone with it. */
        private static void stopsLeaveNothing() {
            String waits = "fun f n = " + "1 + (".repeat(28) + "f(n)" + ")".repeat(28) + " ; fun g n = L(n, n) ; "
                + "fun h n = let l = g(n) in match l { L(a, b) -> let m = f(a) in L(m, b) } ; "
                + "fun i n = let l = g(n) in match l { L(a, b) -> L(b + 1, a) } ;";
            List<String> lines = new ArrayList<>(List.of("take " + waits + " = 4"));
            for (int i = 0; i < 20; i++) {
                // 28 signs, as many numbers, the CALL and its NAME, in each of the open calls.
                lines.addAll(List.of("run 0 9 20000 7 0 0 0 = 4", "count 0 = 5800", "run 2 1 20000 7 0 0 0 = 4",
                    "count 6 = 0", "plain 0 20000 7 0 0 0 = 4", "plain 2 20000 7 0 0 0 = 4",
                    "run 3 1 99 7 0 0 0 = 1", "counts = 12 1 1 0 1 0 1 2", "show run = 6", "out 2 = 56"));
            }
            story("promise 7, run: nothing is left of one that stopped", lines.toArray(new String[0]));
            lines = new ArrayList<>(List.of("take " + LISTS + " = 3"));
            for (int i = 0; i < 45; i++) {
                lines.addAll(List.of("run 2 98 1578 98 0 0 0 = 5", "plain 2 1578 98 0 0 0 = 5"));
            }
            lines.addAll(List.of("run 2 98 1579 98 0 0 0 = 1", "counts = 1579 98 98 0 98 0 98 100", "release = 98",
                "plain 2 1579 98 0 0 0 = 1"));
            story("promise 7, run: no SHELL is left of one that stopped", lines.toArray(new String[0]));
        }

        /** Nothing of a former text, taken or not, stands in the way of a long one. */
        private static void longTexts() {
            String arms = "(match a{A->1|B->2|C->3|D->4|E->5|F->6|G->7|_->8})";
            String text = "fun f a=1" + ("+" + arms).repeat(36) + ";fun g a=0";
            List<String> lines = new ArrayList<>();
            for (int i = 0; i < 2; i++) {
                lines.addAll(List.of("take " + text + "; = 2", "about 0 3 = 36", "about 1 3 = 0",
                    "run 0 0 999 9 0 0 0 = 1", "count 0 = 109", "show run = 3", "bytes = 289",
                    "take " + text + " = -1", "fault = 1", "where = " + text.length(), "about 0 3 = 36",
                    "plain 0 108 9 0 0 0 = 5", "plain 0 109 9 0 0 0 = 1", "show other = 3"));
            }
            story("promise 3, program: long texts behind one another", lines.toArray(new String[0]));
        }

        private static void plain() {
            story("promise 8, plain: beside the run",
                "take " + LISTS + " = 3", "plain 2 20000 2 0 0 0 = 1", "where = -1", "count 0 = -1", "show run = -1",
                "release = -1", "show other = 19", "bytes = Cons(1,Cons(2,Nil))",
                "run 2 400 20000 3 0 0 0 = 1", "show other = 19", "show run = 27",
                "plain 2 20000 1 0 0 0 = 1", "counts = 59 3 3 0 3 0 3 5", "show run = 27",
                "bytes = Cons(1,Cons(2,Cons(3,Nil)))", "show other = 11", "bytes = Cons(1,Nil)",
                "release = 3", "counts = 59 3 3 3 3 0 0 5", "show run = -1", "show other = 11",
                "plain 3 20000 1 0 0 0 = -1", "plain -1 20000 1 0 0 0 = -1", "plain 2 -1 1 0 0 0 = -1",
                "plain 2 20001 1 0 0 0 = -1", "show other = 11", "where = -1",
                "run 2 2 20000 3 0 0 0 = 3", "where = " + BUILT, "plain 2 20000 3 0 0 0 = 1", "where = -1",
                "show other = 27", "show run = -1", "counts = 38 2 0 0 2 0 0 5",
                "plain 2 20000 99 0 0 0 = 4", "where = " + CALLED, "show other = -1",
                "bytes = Cons(1,Cons(2,Cons(3,Nil)))", "plain 2 58 3 0 0 0 = 5", "where = " + LAST_STEP,
                "show other = -1", "plain 1 58 3 0 0 0 = 2", "where = " + MATCH,
                "counts = 38 2 0 0 2 0 0 5", "run 2 401 59 3 0 0 0 = -1", "where = " + MATCH,
                "plain 2 59 3 0 0 0 = 1", "show other = 27");
        }

        private static void show() {
            story("promise 9, show: OUT stays, or is another",
                "take fun big n = if n then let b = big(n - 1) in P(b, b) else Z ; fun neg n = 0 - n ; = 2",
                "show run = -1", "show other = -1", "out 0 = throws",
                "run 0 400 999 1 0 0 0 = 1", "show run = 6", "bytes = P(Z,Z)", "show other = -1", "bytes = P(Z,Z)",
                "plain 0 999 0 0 0 0 = 1", "show other = 1", "bytes = Z", "show run = 6", "bytes = P(Z,Z)",
                "run 0 400 999 10 0 0 0 = 1", "show run = -1", "bytes = P(Z,Z)", "count 6 = 10", "show run = -1",
                "plain 0 999 10 0 0 0 = 1", "show other = -1", "bytes = P(Z,Z)", "release = 10", "show run = -1",
                "run 0 400 999 9 0 0 0 = 1", "show run = 2556",
                "out 2555 = 41", "out 2556 = throws", "plain 1 9 -2147483648 0 0 0 = 1", "show other = 11",
                "bytes = -2147483648", "plain 1 9 -2147483647 0 0 0 = 1", "show other = 10", "bytes = 2147483647",
                "plain 1 9 100 0 0 0 = 1", "show other = 4", "bytes = -100", "plain 1 9 0 0 0 0 = 1", "show other = 1",
                "bytes = 0", "release = 9", "show run = -1", "bytes = 0", "show other = 1", "show other = 1");
        }

        private static void out() {
            story("promise 10, out: as long as the latest show",
                "out 0 = throws", "out -1 = throws", "take fun f a = K(a) ; = 1", "out 0 = throws",
                "run 0 9 9 12345 0 0 0 = 1", "out 0 = throws", "show run = 8", "bytes = K(12345)", "out -1 = throws",
                "out 8 = throws", "out 2147483647 = throws", "out -2147483648 = throws", "out 7 = 41",
                "run 0 9 9 1 0 0 0 = 1", "bytes = K(12345)", "show run = 4", "bytes = K(1)", "out 4 = throws",
                "out 7 = throws", "run 0 9 1 1 0 0 0 = 5", "show run = -1", "bytes = K(1)",
                "take fun f = Nil ; = 1", "bytes = K(1)", "take fun f = = -1", "bytes = K(1)",
                "run 0 0 9 0 0 0 0 = 1", "show run = 3", "bytes = Nil");
        }

        private static void release() {
            story("promise 11, release: once for each value",
                "release = -1", "take " + LISTS + " = 3", "release = -1", "plain 2 20000 3 0 0 0 = 1", "release = -1",
                "run 2 400 20000 3 0 0 0 = 1", "plain 2 20000 5 0 0 0 = 1", "release = 3", "release = -1",
                "count 3 = 3", "count 6 = 0", "count 4 = 3", "show run = -1", "show other = 43",
                "run 2 400 20000 0 0 0 0 = 1", "release = 0", "release = -1", "count 3 = 0",
                "run 2 400 20000 2 0 0 0 = 1", "run 2 400 20000 4 0 0 0 = 1", "release = 4", "count 3 = 4",
                "run 2 400 20000 4 0 0 0 = 1", "run 2 1 20000 4 0 0 0 = 3", "release = -1", "count 6 = 0",
                "count 3 = 0",
                "run 2 400 20000 4 0 0 0 = 1", "run 9 1 20000 4 0 0 0 = -1", "release = 4",
                "run 2 400 20000 4 0 0 0 = 1", "take fun f = ; = -1", "count 6 = 4", "release = 4", "count 6 = 0",
                "run 2 400 20000 4 0 0 0 = 1", "take fun f = K(K(1)) ; = 1", "release = -1",
                "run 0 2 9 0 0 0 0 = 1", "release = 2", "counts = 3 2 0 2 2 0 0 1");
        }

        private static void count() {
            // x is a cell of two: it is DOUBLED for the first field; the match finds it alone at last.
            String text = "fun f a = let x = C(a, a) in let y = P(x, x) in match y { P(b, c) -> let z = drop(b) in "
                + "match c { C(d, e) -> if d then C(e, d) else e } } ; fun drop b = 0 ;";
            story("promise 12, count: of the latest run alone",
                "take " + text + " = 2", "counts = -1 -1 -1 -1 -1 -1 -1 -1", "plain 0 99 1 0 0 0 = 1",
                "counts = -1 -1 -1 -1 -1 -1 -1 -1",
                // STEPS: let C a a, let P x x, match, let CALL b 0, match, if d, C e d. The SHELLS are P, then C:
                // the latest is built anew, the other one left.
                "run 0 9 99 1 0 0 0 = 1", "counts = 19 2 1 1 2 1 1 2", "count 8 = -1", "count -1 = -1",
                "count 2147483647 = -1", "show run = 6", "bytes = C(1,1)",
                "release = 1", "counts = 19 2 1 2 2 1 0 2",
                "run 0 9 99 0 0 0 0 = 1", "counts = 17 2 0 2 2 1 0 2", "release = 0", "counts = 17 2 0 2 2 1 0 2",
                "run 0 1 99 0 0 0 0 = 3", "where = 37", "counts = 8 1 0 0 1 1 0 1",
                "run 0 2 12 0 0 0 0 = 5", "counts = 12 2 0 0 2 1 0 2",
                "run 0 2 99 0 0 0 0 = 1", "counts = 17 2 0 2 2 1 0 2", "run 1 0 99 0 0 0 0 = 1",
                "counts = 1 0 0 0 0 0 0 1", "run 1 0 -1 0 0 0 0 = -1", "counts = 1 0 0 0 0 0 0 1",
                "take " + text + " = 2", "counts = -1 -1 -1 -1 -1 -1 -1 -1");
        }

        private static void asReadmeTells() {
            story("README.md",
                "feed " + 0x66756E20 + " " + 0x66206120 + " " + 0x3D204B28 + " " + 0x61202B20 + " " + 0x3129203B
                    + " = 20",
                "program 20 = 1", "about 0 2 = 1", "run 0 400 100 7 0 0 0 = 1", "where = -1", "count 0 = 4",
                "count 1 = 1", "show run = 4", "bytes = K(8)", "plain 0 100 8 0 0 0 = 1", "show other = 4",
                "release = 1", "release = -1", "run 0 0 100 7 0 0 0 = 3", "where = 10", "show run = -1",
                "feed " + 0x66756E20 + " " + 0x66206120 + " " + 0x3D206220 + " " + 0x3B202020 + " " + 0x20202020
                    + " = 20",
                "program 13 = -1", "fault = 2", "where = 10", "run 0 1 100 7 0 0 0 = 1");
        }
    }

    /** How a job ends; without a value it has not ENDED. */
    private record Ending(int how, int place, int[] counts, String value) {
    }

    /** A function with its numbers, and how it ends with its cells counted and plainly. */
    private record Job(int f, int cells, int steps, String ints, Ending counted, Ending plainly) {
    }

    /** A text with its fault, or with what about() says of its functions and the jobs that it does. */
    private record Text(String bytes, int fault, int place, int[][] facts, List<Job> jobs) {
    }

    private static final class Library {
        static List<Text> all() {
            List<Text> texts = new ArrayList<>(List.of(lists(), pairs(), shells(), six(), drops(), stuck()));
            texts.add(faulty(1, "fun f a = a + ^; fun g = 1 ;"));
            texts.add(faulty(1, "fun f a = (a ^"));
            texts.add(faulty(2, "fun f a = match ^b { _ -> f(1, 2) } ;"));
            texts.add(faulty(2, "fun f a = g(a) + ^h + f ; fun g a = 1 ;"));
            texts.add(faulty(3, "fun f a = let b = a in let ^b = a in c ;"));
            texts.add(faulty(4, "fun f a = ^K(K(a), a) ;"));
            texts.add(faulty(4, "fun f a = ^f(a, a) + h ;"));
            texts.add(faulty(5, "fun f a = K(a, a, a, ^a) ;"));
            texts.add(faulty(5, "fun f a b c d e g ^h = 1 ;"));
            return texts;
        }

        /** The text has a ^ right ahead of its fault. */
        private static Text faulty(int fault, String marked) {
            return new Text(marked.replace("^", ""), fault, marked.indexOf('^'), new int[0][], List.of());
        }

        private static Text whole(String bytes, int[][] facts, List<Job> jobs) {
            return new Text(bytes, 0, ReuseHouse.NONE, facts, jobs);
        }

        private static Ending ended(String value, int... counts) {
            return new Ending(1, ReuseHouse.NONE, counts, value);
        }

        private static Ending stops(int how, int place, int... counts) {
            return new Ending(how, place, counts, null);
        }

        private static String ints(int a) {
            return a + " -5 77 2147483647";
        }

        private static Job same(int f, int cells, int steps, int a, Ending ending) {
            return new Job(f, cells, steps, ints(a), ending, ending);
        }

        /** make(n) has 10 n + 5 STEPS, turn 6 for each cell and 2, main 4. */
        private static Text lists() {
            String bytes = Stories.LISTS;
            List<Job> jobs = new ArrayList<>();
            String value = "Nil";
            for (int n = 0; n <= 98; n++) {
                if (n < 4 || n == 17 || n > 96) {
                    jobs.addAll(listJobs(n, value));
                }
                value = value.replace("Nil", "Cons(" + (n + 1) + ",Nil)");
            }
            jobs.add(same(2, 400, 20000, 99, stops(4, Stories.CALLED, 993, 0, 0, 0, 0, 0, 0, 100)));
            jobs.add(same(1, 400, 20000, 5, stops(2, Stories.MATCH, 1, 0, 0, 0, 0, 0, 0, 1)));
            return whole(bytes, new int[][] {{1, 1, 1, 0, 0}, {2, 4, 1, 1, 1}, {1, 1, 0, 0, 0}}, jobs);
        }

        private static List<Job> listJobs(int n, String value) {
            int steps = 16 * n + 11;
            Ending ending = ended(value, steps, n, n, 0, n, 0, n, n + 2);
            Ending cut = stops(5, Stories.LAST_STEP, steps - 1, n, n, 0, n, 0, 0, n + 2);
            Ending none = stops(5, Stories.FIRST_STEP, 0, 0, 0, 0, 0, 0, 0, 1);
            List<Job> jobs = new ArrayList<>(List.of(same(2, 400, 20000, n, ending), same(2, n, steps, n, ending),
                same(2, 400, steps - 1, n, cut), same(2, 0, 0, n, none)));
            if (n > 0) {
                Ending full = stops(3, Stories.BUILT, 10 * n + 8, n - 1, 0, 0, n - 1, 0, 0, n + 2);
                jobs.add(new Job(2, n - 1, steps, ints(n), full, ending));
            }
            return jobs;
        }

        /** Each cell lies twice in the next one: what is shown is doubled with each call. */
        private static Text pairs() {
            String bytes = "fun big n = if n then let b = big(n - 1) in P(b, b) else Z ;";
            List<Job> jobs = new ArrayList<>();
            String value = "Z";
            for (int n = 0; n <= 11; n++) {
                int steps = 10 * n + 3;
                // The innermost cell has fields that are none.
                int doubled = Math.max(0, n - 1);
                Ending ending = ended(value, steps, n, 0, 0, n, doubled, n, n + 1);
                jobs.add(same(0, n, steps, n, ending));
                if (n > 1) {
                    Ending full = stops(3, bytes.indexOf("P("), steps, n - 1, 0, 0, n - 1, doubled, 0, n + 1);
                    jobs.add(new Job(0, n - 1, 20000, ints(n), full, ending));
                }
                value = "P(" + value + "," + value + ")";
            }
            return whole(bytes, new int[][] {{1, 2, 1, 0, 0}}, jobs);
        }

        /** A SHELL is built anew, or is left and freed. */
        private static Text shells() {
            String bytes = "fun f a = let l = L(a, E) in match l { L(x, y) -> if x then L(0 - x, y) else y "
                + "| _ -> l } ; fun g a = if a then 1 + K(a) else K(a) - 1 ;";
            return whole(bytes, new int[][] {{1, 4, 2, 1, 1}, {1, 1, 2, 0, 0}}, List.of(
                same(0, 1, 12, 6, ended("L(-6,E)", 12, 1, 1, 0, 1, 0, 1, 1)),
                same(0, 400, 99, -6, ended("L(6,E)", 12, 1, 1, 0, 1, 0, 1, 1)),
                same(0, 1, 8, 0, ended("E", 8, 1, 0, 1, 1, 0, 0, 1)),
                new Job(0, 0, 8, ints(0), stops(3, bytes.indexOf("L("), 4, 0, 0, 0, 0, 0, 0, 1),
                    ended("E", 8, 1, 0, 1, 1, 0, 0, 1)),
                same(0, 1, 11, 6, stops(5, bytes.indexOf("y) else"), 11, 1, 0, 0, 1, 0, 0, 1)),
                same(1, 9, 9, 1, stops(2, bytes.indexOf("+"), 6, 1, 0, 0, 1, 0, 0, 1)),
                same(1, 9, 9, 0, stops(2, bytes.lastIndexOf("-"), 6, 1, 0, 0, 1, 0, 0, 1))));
        }

        private static Text six() {
            String bytes = "fun six a b c d e g = T(a + b, c * d, e + g) ; fun none = Nil ;";
            return whole(bytes, new int[][] {{6, 6, 1, 0, 0}, {0, 0, 0, 0, 0}}, List.of(
                same(0, 1, 10, 4, ended("T(-1,2147483571,0)", 10, 1, 0, 0, 1, 0, 1, 1)),
                same(0, 1, 10, -2147483648, ended("T(2147483643,2147483571,0)", 10, 1, 0, 0, 1, 0, 1, 1)),
                same(0, 1, 9, 4, stops(5, bytes.indexOf("g) ;"), 9, 0, 0, 0, 0, 0, 0, 1)),
                same(1, 0, 1, 4, ended("Nil", 1, 0, 0, 0, 0, 0, 0, 1))));
        }

        /** 61 cells each time, dropped at once; plainly they stay, and the 4,001st is the 36th of the 66th time. */
        private static Text drops() {
            String chain = "K(".repeat(20) + "1" + ")".repeat(20);
            String bytes = "fun f n = if n then let a = T(" + chain + ", " + chain + ", " + chain
                + ") in f(n - 1) else 0 ;";
            List<Job> jobs = new ArrayList<>();
            for (int n : new int[] {0, 1, 32, 65, 66, 99}) {
                Ending ending = ended("0", 71 * n + 3, 61 * n, 0, 61 * n, n == 0 ? 0 : 61, 0, 0, n + 1);
                // The 36th cell is the 16th from within of the second chain: four stand around it.
                int place = bytes.indexOf(", K(") + 2 + 4 * 2;
                Ending plainly = n <= 65 ? ending : stops(3, place);
                jobs.add(new Job(0, 61, 20000, ints(n), ending, plainly));
            }
            return whole(bytes, new int[][] {{1, 2, 61, 0, 0}}, jobs);
        }

        private static Text stuck() {
            String bytes = "fun a n = if K then 1 else 2 ; fun b n = match n { K -> 1 | L(x) -> 2 } ; "
                + "fun c n = K < n ;";
            return whole(bytes, new int[][] {{1, 1, 0, 0, 0}, {1, 2, 0, 1, 0}, {1, 1, 0, 0, 0}}, List.of(
                same(0, 0, 9, 1, stops(2, bytes.indexOf("if"), 2, 0, 0, 0, 0, 0, 0, 1)),
                same(1, 0, 9, 1, stops(2, bytes.indexOf("match"), 1, 0, 0, 0, 0, 0, 0, 1)),
                same(2, 0, 9, 1, stops(2, bytes.indexOf("<"), 3, 0, 0, 0, 0, 0, 0, 1)),
                same(2, 0, 0, 1, stops(5, bytes.indexOf("<"), 0, 0, 0, 0, 0, 0, 0, 1))));
        }
    }

    /** What the house must know, call by call. */
    private static final class Ledger {
        private static final List<Text> TEXTS = Library.all();
        private static final int[] ODD = {-1, -2147483648, 2147483647, -20};

        private final int seed;
        private final Random random;
        private final Map<String, Integer> seen;
        private final Caller caller = new Caller();
        private final ArrayDeque<String> trail = new ArrayDeque<>();
        private Text onTape = TEXTS.get(0);
        private String stream = "";
        private int fed = 0;
        private Text taken = null;
        private int fault = 0;
        private int where = ReuseHouse.NONE;
        private Ending latest = null;
        private boolean released = false;
        private Ending other = null;
        private String out = "";

        Ledger(int seed, Map<String, Integer> seen) {
            this.seed = seed;
            this.random = new Random(seed);
            this.seen = seen;
        }

        void goOn() {
            if (seed % 20 == 0) {
                feedToTheEnd();
            }
            while (caller.hasLeft(40)) {
                act();
                for (int i = random.nextInt(6); i > 0; i--) {
                    ask();
                }
                if (random.nextInt(10) == 0) {
                    askAll();
                }
            }
        }

        private void act() {
            switch (random.nextInt(12)) {
                case 0: feed(); break;
                case 1: programOfSoMany(); break;
                case 2: giveText(); break;
                case 3:
                case 4: run(); break;
                case 5: runOdd(); break;
                case 6:
                case 7: plain(); break;
                case 8: plainOdd(); break;
                case 9: release(); break;
                default: show(random.nextBoolean());
            }
        }

        private void ask() {
            switch (random.nextInt(5)) {
                case 0: askFault(); break;
                case 1: askWhere(); break;
                case 2: about(random.nextInt(5) - 1, random.nextInt(7) - 1); break;
                case 3: out(random.nextBoolean() ? random.nextInt(out.length() + 2) - 1 : odd()); break;
                default: count(random.nextInt(8) == 0 ? odd() : random.nextInt(9));
            }
        }

        private void askAll() {
            askFault();
            askWhere();
            for (int what = 0; what < 8; what++) {
                count(what);
            }
            for (int what = 0; what < 5; what++) {
                about(0, what);
            }
            out(0);
            out(out.length() - 1);
            out(out.length());
        }

        private int odd() {
            return ODD[random.nextInt(ODD.length)];
        }

        private void see(String what) {
            seen.merge(what, 1, Integer::sum);
        }

        private void seeNumber(String what, int answer) {
            see(what + (answer == ReuseHouse.NONE ? " refused" : " answered"));
        }

        private void call(String line, Object want) {
            String got = caller.call(line);
            if (!got.equals(want.toString())) {
                due("seed " + seed + ", behind " + trail + ": " + line, got, want.toString());
            }
            trail.add(line);
            if (trail.size() > 12) {
                trail.remove();
            }
        }

        /** The tape's first text is known whole; what comes behind it is another one. */
        private void feed() {
            if (fed == 0) {
                onTape = TEXTS.get(random.nextInt(TEXTS.size()));
                stream = onTape.bytes + " ".repeat(20) + TEXTS.get(random.nextInt(TEXTS.size())).bytes;
            }
            boolean fits = fed + 20 <= 2000;
            String line = feedOf(stream, fed);
            fed += fits ? 20 : 0;
            int want = fits ? fed : ReuseHouse.NONE;
            seeNumber("feed", want);
            call(line, want);
        }

        private void feedToTheEnd() {
            for (int i = 0; i < 102; i++) {
                feed();
            }
        }

        private void giveText() {
            if (fed == 0) {
                feed();
            }
            for (int i = 0; i < 100 && fed < onTape.bytes.length() && caller.hasLeft(8); i++) {
                feed();
            }
            program(onTape.bytes.length());
        }

        private void programOfSoMany() {
            int size = onTape.bytes.length();
            switch (random.nextInt(5)) {
                case 0: program(fed + 1); break;
                case 1: program(odd()); break;
                case 2: program(0); break;
                case 3:
                    if (onTape.fault == 0 && fed >= size) {
                        program(size - 1);
                    }
                    break;
                default: program(size);
            }
        }

        /** The document's way: an n that is none, a fault, or a program that is taken. */
        private void program(int n) {
            int want = ReuseHouse.NONE;
            fault = 0;
            where = ReuseHouse.NONE;
            if (n >= 0 && n <= fed) {
                boolean whole = n == onTape.bytes.length();
                fault = whole ? onTape.fault : 1;
                where = whole ? onTape.place : n;
                fed = 0;
                if (fault == 0) {
                    taken = onTape;
                    want = taken.facts.length;
                    latest = null;
                    released = false;
                    other = null;
                }
            }
            seeNumber("program", want);
            call("program " + n, want);
        }

        private Job anyJob() {
            return taken == null || taken.jobs.isEmpty() ? null : taken.jobs.get(random.nextInt(taken.jobs.size()));
        }

        private void run() {
            Job job = anyJob();
            if (job == null) {
                seeNumber("run", ReuseHouse.NONE);
                call("run 0 400 20000 1 2 3 4", ReuseHouse.NONE);
                return;
            }
            latest = job.counted;
            released = false;
            where = latest.place;
            seeNumber("run", latest.how);
            see("run ends by " + latest.how);
            call("run " + job.f + " " + job.cells + " " + job.steps + " " + job.ints, latest.how);
        }

        private void runOdd() {
            String[] lines = {"run 3 400 99", "run -1 400 99", "run 0 401 99", "run 0 -1 99", "run 0 400 -1",
                "run 0 400 20001", "run -2147483648 0 0", "run 2147483647 0 0", "run 0 2147483647 1",
                "run 0 1 2147483647"};
            seeNumber("run", ReuseHouse.NONE);
            call(lines[random.nextInt(lines.length)] + " " + Library.ints(3), ReuseHouse.NONE);
        }

        private void plain() {
            Job job = anyJob();
            if (job == null) {
                seeNumber("plain", ReuseHouse.NONE);
                call("plain 0 20000 1 2 3 4", ReuseHouse.NONE);
                return;
            }
            other = job.plainly;
            where = other.place;
            seeNumber("plain", other.how);
            see("plain ends by " + other.how);
            call("plain " + job.f + " " + job.steps + " " + job.ints, other.how);
        }

        private void plainOdd() {
            String[] lines = {"plain 3 99", "plain -1 99", "plain 0 -1", "plain 0 20001", "plain 2147483647 0",
                "plain -2147483648 0", "plain 0 2147483647"};
            seeNumber("plain", ReuseHouse.NONE);
            call(lines[random.nextInt(lines.length)] + " " + Library.ints(3), ReuseHouse.NONE);
        }

        private boolean hasValue() {
            return latest != null && latest.value != null && !released;
        }

        private void show(boolean ofOther) {
            String value = ofOther ? other == null ? null : other.value : hasValue() ? latest.value : null;
            boolean shown = value != null && value.length() <= 4000;
            out = shown ? value : out;
            int want = shown ? value.length() : ReuseHouse.NONE;
            seeNumber(ofOther ? "show other" : "show run", want);
            call(ofOther ? "show other" : "show run", want);
        }

        private void out(int i) {
            boolean there = i >= 0 && i < out.length();
            seeNumber("out", there ? i : ReuseHouse.NONE);
            call("out " + i, there ? (int) out.charAt(i) : "throws");
        }

        private void release() {
            int want = hasValue() ? latest.counts[6] : ReuseHouse.NONE;
            released = released || hasValue();
            seeNumber("release", want);
            call("release", want);
        }

        /** All cells that are held hang on the value: behind release() none is, and all are freed. */
        private void count(int what) {
            int want = latest == null || what < 0 || what > 7 ? ReuseHouse.NONE : latest.counts[what];
            if (want != ReuseHouse.NONE && released) {
                want = what == 6 ? 0 : what == 3 ? latest.counts[3] + latest.counts[6] : want;
            }
            seeNumber("count", want);
            call("count " + what, want);
        }

        private void about(int f, int what) {
            boolean there = taken != null && f >= 0 && f < taken.facts.length && what >= 0 && what < 5;
            int want = there ? taken.facts[f][what] : ReuseHouse.NONE;
            seeNumber("about", want);
            call("about " + f + " " + what, want);
        }

        private void askFault() {
            see("fault " + fault);
            call("fault", fault);
        }

        private void askWhere() {
            see(where == ReuseHouse.NONE ? "where none" : "where some");
            call("where", where);
        }
    }
}
