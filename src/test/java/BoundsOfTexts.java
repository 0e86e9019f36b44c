import java.util.NoSuchElementException;

/**
 * The boundary cases of the tape, of texts and their faults: the terms I and II and the promises 1 to 6,
 * a sentence of the document at a time. The object under test is never called more than 512 times.
 */
public final class BoundsOfTexts {
    private static final String[] KEYWORDS = {"let", "in", "if", "then", "else", "match", "fun"};
    private static final int THROWS = -1000;
    private static int wrong = 0;
    private static String sentence = "";

    public static void main(String[] args) {
        noProgram();
        tapeFull();
        tapeBytes();
        programOfSoMany();
        programTaken();
        programRefused();
        faultAndWhere();
        functions();
        namesTold();
        kinds();
        fields();
        deepEverywhere();
        namesAtOnce();
        arms();
        blanks();
        names();
        kindsAndNumbers();
        bytesOfNoToken();
        grammarEdges();
        endOfTheText();
        untold();
        toldTwice();
        otherFields();
        manyMayStandThere();
        leastNumberOfOnePlace();
        callsBehindTheWhole();
        aboutOthers();
        aboutCounts();
        aboutShells();
        System.out.println(wrong == 0 ? "all bounds of texts hold" : wrong + " answers are not as due");
        if (wrong != 0) {
            System.exit(1);
        }
    }

    private static void due(String what, long got, long want) {
        if (got != want) {
            wrong++;
            System.out.println("\"" + sentence + "\" " + what + " answered " + got + ", due is " + want);
        }
    }

    private static void due(String what, String got, String want) {
        if (!got.equals(want)) {
            wrong++;
            System.out.println("\"" + sentence + "\" " + what + " answered " + got + ", due is " + want);
        }
    }

    /** Feeds the text, with blanks behind it up to twenty bytes; the answer of the last feed(). */
    private static int give(ReuseHouse house, String text) {
        int answer = 0;
        for (int i = 0; i < text.length(); i += 20) {
            int[] five = new int[5];
            for (int k = 0; k < 20; k++) {
                int sign = i + k < text.length() ? text.charAt(i + k) : ' ';
                five[k / 4] = five[k / 4] << 8 | sign;
            }
            answer = house.feed(five[0], five[1], five[2], five[3], five[4]);
        }
        return answer;
    }

    private static int take(ReuseHouse house, String text) {
        give(house, text);
        return house.program(text.length());
    }

    private static ReuseHouse with(String text) {
        ReuseHouse house = new ReuseHouse();
        int functions = take(house, text);
        if (functions < 1) {
            due("program of " + text + " (fault " + house.fault() + " at " + house.where() + ")", functions, 1);
        }
        return house;
    }

    /** The program is taken. */
    private static void fine(String text) {
        ReuseHouse house = new ReuseHouse();
        int functions = take(house, text);
        due("program is taken: " + text, functions >= 1 ? 1 : functions, 1);
        due("fault of " + text, house.fault(), 0);
        due("where of " + text, house.where(), -1);
    }

    /** The text has a ^ right ahead of the place that is due. */
    private static void fault(int number, String marked) {
        String text = marked.replace("^", "");
        ReuseHouse house = new ReuseHouse();
        due("program of " + marked, take(house, text), -1);
        due("fault of " + marked, house.fault(), number);
        due("where of " + marked, house.where(), marked.indexOf('^'));
    }

    private static String value(ReuseHouse house, int f) {
        if (house.run(f, 400, 20000, 0, 0, 0, 0) != 1) {
            return "not ended";
        }
        return shown(house);
    }

    private static String shown(ReuseHouse house) {
        int size = house.show(false);
        StringBuilder text = new StringBuilder();
        for (int i = 0; i < size; i++) {
            text.append((char) at(house, i));
        }
        return size < 0 ? "none" : text.toString();
    }

    /** Byte i of OUT, or THROWS if out(i) throws what the document says. */
    private static int at(ReuseHouse house, int i) {
        try {
            return house.out(i);
        } catch (NoSuchElementException none) {
            return THROWS;
        }
    }

    /** Letters that stand for a number: a, b, .. z, ba, bb, .. */
    private static String letters(int number) {
        String last = String.valueOf((char) ('a' + number % 26));
        return number < 26 ? last : letters(number / 26) + last;
    }

    private static void noProgram() {
        sentence = "ReuseHouse(): No program.";
        ReuseHouse house = new ReuseHouse();
        due("NONE", ReuseHouse.NONE, -1);
        due("fault", house.fault(), 0);
        due("where", house.where(), -1);
        for (int what = -1; what <= 5; what++) {
            due("about(0, " + what + ")", house.about(0, what), -1);
        }
        due("run", house.run(0, 0, 0, 0, 0, 0, 0), -1);
        due("plain", house.plain(0, 0, 0, 0, 0, 0), -1);
        due("show(false)", house.show(false), -1);
        due("show(true)", house.show(true), -1);
        due("release", house.release(), -1);
        for (int what = -1; what <= 8; what++) {
            due("count(" + what + ")", house.count(what), -1);
        }
        due("out(0) throws", at(house, 0), THROWS);
        due("where behind what was refused", house.where(), -1);
        due("the tape is empty: program(1)", house.program(1), -1);
        due("fault", house.fault(), 0);
    }

    /** A program of exactly so many bytes, whose last one it needs; its value is given. */
    private static String ofLength(int bytes, int number) {
        return "fun f=" + number + " ".repeat(bytes - 8) + ";";
    }

    private static void tapeFull() {
        sentence = "feed: Twenty bytes come behind THE TAPE: how many there are. NONE, and none comes, if more than 2,000.";
        ReuseHouse house = new ReuseHouse();
        String text = ofLength(2000, 7);
        for (int i = 0; i < 2000; i += 20) {
            due("feed", give(house, text.substring(i, i + 20)), i + 20);
        }
        due("feed on a full tape", give(house, "fun g = 1 ;"), -1);
        due("feed on a full tape again", house.feed(0, 0, 0, 0, 0), -1);
        due("none has come: program(2001)", house.program(2001), -1);
        due("none has come: program(2020)", house.program(2020), -1);
        due("all 2,000 bytes are read", house.program(2000), 1);
        due("its value", value(house, 0), "7");
        due("feed on the tape that is empty now", house.feed(0, 0, 0, 0, 0), 20);
        house = new ReuseHouse();
        text = ofLength(1999, 6) + " ";
        give(house, text);
        due("1,998 bytes of a program of 1,999", house.program(1998), -1);
        due("fault", house.fault(), 1);
        due("where", house.where(), 1998);
        give(house, text);
        due("1,999 bytes", house.program(1999), 1);
    }

    private static void tapeBytes() {
        sentence = "feed: of each number the highest first";
        ReuseHouse house = new ReuseHouse();
        house.feed(0x66756E20, 0x66203D20, 0x31323334, 0x35363738, 0x39203B0A);
        due("program", house.program(20), 1);
        due("value", value(house, 0), "123456789");
        house.feed(0x66756E20, 0x66203D20, 0x310AFF0A, 0x3B202020, 0x20202020);
        due("a byte above 127", house.program(20), -1);
        due("fault", house.fault(), 1);
        due("where", house.where(), 10);
        house.feed(0x66756E20, 0x66203D20, 0x310A0A3B, 0x80202020, 0x20202020);
        due("a number below 0", house.program(20), -1);
        due("where", house.where(), 12);
        house.feed(0x66756E20, 0x66203D20, 0x310A0A3B, 0x80202020, 0x20202020);
        due("without it", house.program(12), 1);
    }

    private static void programOfSoMany() {
        sentence = "program: NONE: n below 0 or more than there are (THE TAPE stays, fault() 0)";
        ReuseHouse house = new ReuseHouse();
        take(house, "fun f = ;");
        due("a fault ahead of it", house.fault(), 1);
        due("where ahead of it", house.where(), 8);
        give(house, "fun f = 1 ;");
        int[] others = {-1, -2, -20, Integer.MIN_VALUE, 21, 22, 40, 2000, 2001, Integer.MAX_VALUE};
        for (int n : others) {
            due("program(" + n + ")", house.program(n), -1);
            due("fault behind " + n, house.fault(), 0);
            due("where behind " + n, house.where(), -1);
        }
        due("the tape has stayed", give(house, "fun g = 2 ;"), 40);
        due("as many as there are", house.program(40), 2);
        sentence = "program: The first n bytes of THE TAPE (it is empty then)";
        due("one more than there are", house.program(1), -1);
        due("fault", house.fault(), 0);
        due("feed on an empty tape", give(house, "fun f = 1 ;"), 20);
        due("0 bytes", house.program(0), -1);
        due("fault", house.fault(), 1);
        due("where", house.where(), 0);
        due("empty behind program(0)", house.program(1), -1);
        due("feed behind program(0)", give(house, "fun f = 1 ; fun g = 2 ; ?"), 40);
        due("fewer than there are", house.program(11), 1);
        due("the rest is gone", house.program(1), -1);
        due("feed", give(house, "fun f = 5 ; fun g = 2 ;"), 40);
        due("a token that is cut off", house.program(14), -1);
        due("fault", house.fault(), 1);
        due("where", house.where(), 12);
        due("empty behind a fault", house.program(1), -1);
        due("fault", house.fault(), 0);
        due("feed behind a fault", house.feed(0, 0, 0, 0, 0), 20);
    }

    private static void programTaken() {
        sentence = "program: (A program that is taken: there is no run any more.)";
        ReuseHouse house = with("fun f a = A(a) ;");
        due("run", house.run(0, 1, 9, 3, 0, 0, 0), 1);
        due("plain", house.plain(0, 9, 4, 0, 0, 0), 1);
        due("show", shown(house), "A(3)");
        due("the same program once more", take(house, "fun f a = A(a) ;"), 1);
        for (int what = 0; what <= 7; what++) {
            due("count(" + what + ")", house.count(what), -1);
        }
        due("show(false)", house.show(false), -1);
        due("show(true)", house.show(true), -1);
        due("release", house.release(), -1);
        due("OUT stays", at(house, 2), '3');
        due("where", house.where(), -1);
        due("run cut", house.run(0, 1, 0, 3, 0, 0, 0), 5);
        due("where of that", house.where(), 10);
        due("a program", take(house, "fun g = 1 ; fun h = 2 ;"), 2);
        due("where is of the program now", house.where(), -1);
        due("count ahead of any run of it", house.count(0), -1);
        due("its second function", value(house, 1), "2");
    }

    private static void programRefused() {
        sentence = "program: NONE, and the former one stays";
        ReuseHouse house = with("fun f a b = A(a) ; fun g = 1 ;");
        house.run(0, 1, 9, 3, 0, 0, 0);
        house.plain(0, 9, 4, 0, 0, 0);
        String[] refused = {"fun h = ", "fun h = x ;", "fun h i = ;", "fun h a a = B(1, 2) ;", "fun h = A(1) + A ;",
            "fun h a b c d e f g = 1 ;", "fun h = B(1) ; fun i = h(1) ;"};
        for (String text : refused) {
            due("program of " + text, take(house, text), -1);
            due("fault is one", house.fault() > 0 ? 1 : 0, 1);
            due("about of the former", house.about(0, 0), 2);
            due("about of the former", house.about(1, 0), 0);
            due("the run stays", house.count(1), 1);
            due("its value stays", shown(house), "A(3)");
            due("the other stays", house.show(true), 4);
        }
        due("n below 0", house.program(-1), -1);
        due("its value stays", shown(house), "A(3)");
        due("the former one runs", house.run(0, 1, 9, 8, 0, 0, 0), 1);
        due("with its kinds", shown(house), "A(8)");
        due("release", house.release(), 1);
    }

    private static void faultAndWhere() {
        sentence = "fault: The FAULT of the latest program(), 0 without one.";
        ReuseHouse house = with("fun f a = a + 1 ; fun g a = A + 1 ;");
        due("fault of one that is taken", house.fault(), 0);
        due("where of one that is taken", house.where(), -1);
        take(house, "fun f a a = 1 ;");
        due("fault", house.fault(), 3);
        due("where", house.where(), 8);
        due("asked again", house.fault(), 3);
        due("asked again", house.where(), 8);
        sentence = "where: Its place; behind run(), plain() the place at which it stopped; NONE without (also behind one that ENDED).";
        due("a run that is refused", house.run(2, 0, 9, 0, 0, 0, 0), -1);
        due("where stays", house.where(), 8);
        due("a run that ended", house.run(0, 0, 9, 0, 0, 0, 0), 1);
        due("where", house.where(), -1);
        due("the fault of the latest program stays", house.fault(), 3);
        due("a run that stopped", house.run(1, 0, 9, 0, 0, 0, 0), 2);
        due("where", house.where(), 30);
        due("the fault of the latest program stays", house.fault(), 3);
        due("a plain that ended", house.plain(0, 9, 0, 0, 0, 0), 1);
        due("where", house.where(), -1);
        due("a plain that stopped", house.plain(1, 0, 0, 0, 0, 0), 5);
        due("where", house.where(), 30);
        house.show(false);
        house.release();
        house.feed(0, 0, 0, 0, 0);
        due("where behind other calls", house.where(), 30);
        due("n below 0", house.program(-1), -1);
        due("where without a fault", house.where(), -1);
        due("fault", house.fault(), 0);
    }

    private static void functions() {
        sentence = "FUNCTIONS 30; 5 MANY: a 31st FUNCTION (at its fun)";
        StringBuilder thirty = new StringBuilder();
        for (int i = 0; i < 30; i++) {
            thirty.append("fun f").append(letters(i)).append(" = ").append(i).append(" ; ");
        }
        ReuseHouse house = new ReuseHouse();
        due("30 functions", take(house, thirty.toString()), 30);
        due("the 30th", value(house, 29), "29");
        due("its names told", house.about(29, 0), 0);
        due("no 31st", house.about(30, 0), -1);
        due("no 31st to run", house.run(30, 0, 9, 0, 0, 0, 0), -1);
        due("no 31st to run plainly", house.plain(30, 9, 0, 0, 0, 0), -1);
        fault(5, thirty + "^fun g = 1 ;");
        fault(5, thirty + "^fun fa = 1 ;");
        fault(5, thirty + "^fun");
        fault(5, thirty + "^fun fun ?");
        fault(1, thirty + "^f = 1 ;");
        fault(1, thirty + "^funs g = 1 ;");
        ReuseHouse one = new ReuseHouse();
        due("1 function", take(one, "fun f = 1 ;"), 1);
    }

    private static void namesTold() {
        sentence = "of at most 6 names told; 5 MANY: a 7th name told";
        ReuseHouse house = with("fun f = 1 ; fun g a b c d e f = f ;");
        due("0 names told", house.about(0, 0), 0);
        due("6 names told", house.about(1, 0), 6);
        fault(5, "fun g a b c d e f ^h = 1 ;");
        fault(5, "fun g a b c d e f ^h i j k");
        fault(1, "fun g a b c d e f ^H = 1 ;");
        fault(1, "fun g a b c d e f ^let = 1 ;");
        fault(1, "fun g a b c d e f^");
        fault(5, "fun g a b c d e f = 1 ; fun h a b c d e f ^i = 1 ;");
    }

    /** The KINDS A to T, each alone; their sum never works, but it is a program. */
    private static String twentyKinds() {
        StringBuilder text = new StringBuilder("A");
        for (char c = 'B'; c <= 'T'; c++) {
            text.append(" + ").append(c);
        }
        return text.toString();
    }

    private static void kinds() {
        sentence = "20 KINDS; 5 MANY: a 21st KIND: at its first TOKEN";
        String twenty = "fun f x = " + twentyKinds();
        fine(twenty + " ;");
        fine(twenty + " + A + T + K ;");
        fine(twenty + " ; fun g x = match x { A -> T | T -> A | _ -> B } ;");
        fault(5, twenty + " + ^U ;");
        fault(5, twenty + " + A + ^Aa ;");
        fault(5, twenty + " + ^U(1, 2) ;");
        fault(5, twenty + " + ^U ?");
        fault(5, twenty + " + ^U(?");
        fault(5, twenty + " ; fun g x = match x { ^U -> 1 } ;");
        fault(5, twenty + " ; fun g x = match x { A -> 1 | ^U(a, b) -> 1 } ;");
        fault(1, twenty + " + ^UU ;");
        ReuseHouse house = with("fun f x = if x then " + twentyKinds() + " else T ;");
        due("the 20th of one program", value(house, 0), "T");
    }

    private static void fields() {
        sentence = "KINDS of 0 to 3 fields; 5 MANY: a fourth field";
        ReuseHouse house = with("fun f = T(A, B(1), C(1, 2)) ;");
        due("0 to 3 fields", value(house, 0), "T(A,B(1),C(1,2))");
        fine("fun f x = match x { A -> 1 | B(a) -> a | C(b, c) -> c | D(e, g, h) -> h } ;");
        fault(5, "fun f = T(1, 2, 3, ^4) ;");
        fault(5, "fun f = T(1, 2, 3, ^(4)) ;");
        fault(5, "fun f = T(1, 2, 3, ^let a = 1 in a) ;");
        fault(5, "fun f = T(1, 2, 3, ^x, 5, 6");
        fault(1, "fun f = T(1, 2, 3, ^) ;");
        fault(1, "fun f = T(1, 2, 3, ^* 4) ;");
        fault(1, "fun f = T(1, 2, 3,^");
        fault(1, "fun f = T(^) ;");
        fault(5, "fun f x = match x { D(a, b, c, ^d) -> 1 } ;");
        fault(1, "fun f x = match x { D(a, b, c, ^1) -> 1 } ;");
        fault(1, "fun f x = match x { D(a, b, c, ^) -> 1 } ;");
        fault(1, "fun f x = match x { D(^) -> 1 } ;");
        sentence = "a CALL has no fields: its arguments are looked at behind the whole";
        fine("fun f a b c d e g = 1 ; fun h = f(1, 2, 3, 4, 5, 6) ;");
        fault(4, "fun f a b c d e g = 1 ; fun h = ^f(1, 2, 3, 4, 5, 6, 7) ;");
    }

    /** Nests 29 times, then once more by brackets: the EXPR of a FUNCTION is 1 deep. */
    private static void deep(String before, String behind) {
        String nested = "fun f x = " + before.repeat(29);
        fine(nested + "1" + behind.repeat(29) + " ;");
        fault(5, nested + "(^1)" + behind.repeat(29) + " ;");
        fault(5, nested + "(^A(1, 2))" + behind.repeat(29) + " ;");
        fault(5, nested + "f(^1)" + behind.repeat(29) + " ;");
        fault(5, nested + "A(^1)" + behind.repeat(29) + " ;");
        fault(5, nested + "if ^1 then 2 else 3" + behind.repeat(29) + " ;");
        fault(5, nested + "match x { _ -> ^1 }" + behind.repeat(29) + " ;");
        fault(5, nested + "let b = ^1 in b" + behind.repeat(29) + " ;");
        fault(5, nested + "(^let ?");
        fault(1, nested + "(^?");
        fault(1, nested + "(^, 1");
        fault(1, nested + "(^");
    }

    private static void deepEverywhere() {
        sentence = "an EXPR 30 deep; EXPRS are deep by each EXPR within another one (those of ( ) and arguments, too)";
        deep("(", ")");
        deep("f(", ")");
        deep("A(", ")");
        deep("P(1, ", ")");
        deep("if 1 then 2 else ", "");
        deep("if 1 then ", " else 2");
        deep("if ", " then 1 else 2");
        deep("match x { _ -> ", " }");
        deep("let a = ", " in 1");
        deep("1 < (", ")");
        deep("2 * (1) + (", ")");
        StringBuilder lets = new StringBuilder();
        for (int i = 0; i < 23; i++) {
            lets.append("let v").append(letters(i)).append(" = 1 in ");
        }
        sentence = "an EXPR 30 deep: a let's second EXPR";
        fine("fun f x = " + lets + "(".repeat(6) + "1" + ")".repeat(6) + " ;");
        fault(5, "fun f x = " + lets + "(".repeat(7) + "^1" + ")".repeat(7) + " ;");
        sentence = "EXPRS are deep by each EXPR within another one: not by signs, PARTS, or those beside it";
        fine("fun f x = 1" + " + 1 * 1".repeat(100) + " < 2 ;");
        fine("fun f x = " + "(".repeat(29) + "1 + 2 * 3 < 4" + ")".repeat(29) + " + (" + "(".repeat(28) + "1"
            + ")".repeat(28) + ") ;");
        fine("fun f x = " + "(".repeat(29) + "1" + ")".repeat(29) + " ; fun g x = " + "(".repeat(29) + "1"
            + ")".repeat(29) + " ;");
    }

    private static String lets(int count) {
        StringBuilder text = new StringBuilder();
        for (int i = 0; i < count; i++) {
            text.append("let v").append(letters(i)).append(" = ").append(i).append(" in ");
        }
        return text.toString();
    }

    private static void namesAtOnce() {
        sentence = "24 NAMES at once in a FUNCTION; 5 MANY: a 25th NAME";
        String six = "fun f a b c d e g = ";
        ReuseHouse house = with(six + lets(18) + "va + vr ;");
        due("24 names at once", house.about(0, 1), 24);
        due("the first and the 18th of them", value(house, 0), "17");
        fault(5, six + lets(18) + "let ^h = 1 in h ;");
        fault(5, six + lets(18) + "let ^h ?");
        fault(1, six + lets(18) + "let ^H = 1 in h ;");
        fault(3, six + lets(18) + "let ^va = 1 in va ;");
        fine(six + lets(17) + "match a { A(h) -> h | B(h) -> h | _ -> let h = 1 in h } ;");
        fault(5, six + lets(17) + "match a { A(h, ^i) -> h } ;");
        fault(5, six + lets(18) + "match a { A(^h) -> h } ;");
        fine(six + lets(18) + "match a { A -> 1 | _ -> 2 } ;");
        sentence = "24 NAMES at once: those that are told around a place no more are none";
        fine(six + "(" + lets(18) + "1) + (" + lets(18) + "2) ;");
        fine(six + lets(18) + "1 ; fun h a b c d e g = " + lets(18) + "1 ;");
        fine(six + lets(17) + "(let h = 1 in h) + (let h = 2 in h) ;");
        fine(six + lets(17) + "let h = (let i = 1 in i) in h ;");
        fault(5, six + lets(17) + "let h = 1 in let ^i = 1 in i ;");
    }

    private static void arms() {
        sentence = "5 MANY: a ninth ARM";
        StringBuilder text = new StringBuilder("fun f x = let y = H in match y { ");
        for (char c = 'A'; c <= 'G'; c++) {
            text.append(c).append(" -> ").append(c - 'A').append(" | ");
        }
        ReuseHouse house = with(text + "H -> 77 } ;");
        due("the eighth arm", value(house, 0), "77");
        house = with(text + "_ -> 78 } ;");
        due("_ as the eighth arm", value(house, 0), "78");
        fault(5, text + "H -> 77 | ^I -> 1 } ;");
        fault(5, text + "H -> 77 | ^_ -> 1 } ;");
        fault(5, text + "H -> 77 | ^I(a, a ?");
        fault(1, text + "H -> 77 | ^} ;");
        fault(1, text + "H -> 77 | ^a -> 1 } ;");
        fault(1, text + "H -> 77 |^");
        fine("fun f x = match x { A -> 1 } ;");
        fault(1, "fun f x = match x { ^} ;");
        fine(text + "H -> match x { A -> 1 | B -> 2 | C -> 3 | _ -> 4 } } ;");
    }

    private static void blanks() {
        sentence = "Blanks (bytes 32, 10) part TOKENS and mean nothing else.";
        fine("fun f=1;");
        fine("\n\n  fun\nf\n\n=  1\n;\n \n");
        fine("fun f x=match x{A(a,b)->a*(b)|_->1<2};fun g=f(A(1,2));");
        for (int blank : new int[] {0, 9, 11, 12, 13, 127, 160, 255}) {
            fault(1, "fun f =^" + (char) blank + "1 ;");
            fault(1, "fun f = 1 ; ^" + (char) blank);
        }
        fault(1, "fun f = 1 ^2 ;");
        fault(1, "fun f = a ^b ;");
        fault(1, "fun f x = match x { _ ^- > 1 } ;");
        ReuseHouse house = with("fun f = 12 ;");
        due("12", value(house, 0), "12");
    }

    private static void names() {
        sentence = "NAMES (1 to 8 small letters, but for let in if then else match fun)";
        ReuseHouse house = with("fun f = abcdefgh(1) ; fun abcdefgh zyxwvuts = let aaaaaaaa = zyxwvuts in "
            + "aaaaaaaa + abcdefgi ; fun abcdefgi = 4 ; fun z = 9 ;");
        due("eight letters", value(house, 0), "5");
        due("one letter", value(house, 3), "9");
        fault(1, "fun ^abcdefghi = 1 ;");
        fault(1, "fun f ^abcdefghi = 1 ;");
        fault(1, "fun f = ^abcdefghi ;");
        fault(1, "fun f = let ^abcdefghi = 1 in 1 ;");
        fault(1, "fun f x = match ^abcdefghi { _ -> 1 } ;");
        fault(1, "fun f x = match x { A(^abcdefghi) -> 1 } ;");
        for (String word : KEYWORDS) {
            fault(1, "fun ^" + word + " = 1 ;");
            fault(1, "fun f ^" + word + " = 1 ;");
            fault(1, "fun f = let ^" + word + " = 1 in 1 ;");
            fault(1, "fun f x = match ^" + word + " { _ -> 1 } ;");
            fault(1, "fun f x = match x { A(^" + word + ") -> 1 } ;");
            fault(1, "fun f x = 1 + ^" + word + " ;");
            fine("fun " + word + "s x" + word + " = let " + word + "a = 1 in " + word + "a + x" + word + " ;");
        }
    }

    private static void kindsAndNumbers() {
        sentence = "KINDS (a great letter, then up to 7 small ones)";
        ReuseHouse house = with("fun f = P(Abcdefgh, Zyxwvuts(Z)) ; fun g = Abcdefgh ;");
        due("eight letters", value(house, 0), "P(Abcdefgh,Zyxwvuts(Z))");
        fault(1, "fun f = ^Abcdefghi ;");
        fault(1, "fun f x = match x { ^Abcdefghi -> 1 } ;");
        fault(1, "fun f = ^Abcdefghi(1) ;");
        fault(1, "fun f = ^AB ;");
        fault(1, "fun f = ^AbC ;");
        fine("fun f = P(Aaaaaaaa, Aaaaaaab(1), Aaaaaaa(1, 2)) ;");
        sentence = "NUMBERS (1 to 9 digits)";
        house = with("fun f = 999999999 ; fun g = 0 ; fun h = 000000007 ; fun i = 000000000 ;");
        due("nine digits", value(house, 0), "999999999");
        due("one digit", value(house, 1), "0");
        due("nine digits with 0 ahead", value(house, 2), "7");
        due("nine times 0", value(house, 3), "0");
        fault(1, "fun f = ^1000000000 ;");
        fault(1, "fun f = ^0000000001 ;");
        fault(1, "fun f = ^- 1 ;");
        sentence = "Letters, digits that stand together are one.";
        fault(1, "fun f = ^1a ;");
        fault(1, "fun f = ^a1 ;");
        fault(1, "fun f = ^A1 ;");
        fault(1, "fun f = ^1A ;");
        fault(1, "fun f = ^aA ;");
        fault(1, "fun f = ^12345678a ;");
        fault(1, "^funf = 1 ;");
        fault(1, "fun f = 1 ; ^1fun g = 1 ;");
        fault(1, "fun f x = if x ^then1 else 2 ;");
    }

    private static void bytesOfNoToken() {
        sentence = "1 FORM: the first byte that begins no TOKEN, or TOKEN with which no program goes on";
        for (int sign = 0; sign < 256; sign++) {
            String text = "fun f = 1 ^" + (char) sign + " ;";
            if (sign == '^') {
                ReuseHouse house = new ReuseHouse();
                due("program with ^", take(house, "fun f = 1 ^ ;"), -1);
                due("where", house.where(), 10);
            } else if (sign == 32 || sign == 10) {
                fine(text.replace("^", ""));
            } else if ("+-*<;".indexOf(sign) >= 0) {
                fault(1, "fun f = 1 " + (char) sign + " ^;");
            } else {
                fault(1, text);
            }
        }
        fault(1, "fun f = ^? @ ;");
        fault(1, "^?");
        fault(1, "fun f = 1 ; ^?");
    }

    private static void grammarEdges() {
        sentence = "PROGRAM: DEF {DEF}.";
        fault(1, "^");
        fault(1, "   \n^");
        fault(1, "fun f = 1 ; ^; ");
        sentence = "DEF: fun NAME {NAME} = EXPR ;";
        fault(1, "fun ^= 1 ;");
        fault(1, "fun f ^, a = 1 ;");
        fault(1, "fun f^(a) = 1 ;");
        fault(1, "fun f = 1 ^} ;");
        sentence = "(An = within is none: let alone has it.)";
        fault(1, "fun f a = a ^= 1 ;");
        fault(1, "fun f a = let b = a ^= 1 in b ;");
        fault(1, "fun f a = if a ^= 1 then 1 else 2 ;");
        sentence = "SUM [< SUM]";
        fine("fun f = 1 + 2 < 2 * 3 - 1 ;");
        fine("fun f = (1 < 2) < 3 ;");
        fault(1, "fun f = 1 < 2 ^< 3 ;");
        sentence = "PART: ATOM {* ATOM}: let, if and match are no ATOMS";
        fault(1, "fun f x = 1 + ^let a = 1 in a ;");
        fault(1, "fun f x = 1 * ^if x then 1 else 2 ;");
        fault(1, "fun f x = 1 < ^match x { _ -> 1 } ;");
        fault(1, "fun f x = match x { _ -> 1 } ^+ 1 ;");
        fine("fun f x = 1 + (let a = 1 in a) * (if x then 1 else 2) - (match x { _ -> 1 }) ;");
        sentence = "NAME ( EXPR {, EXPR} ) a CALL";
        fault(1, "fun f = f(^) ;");
        fault(1, "fun f a = f(1, ^) ;");
        fault(1, "fun f a = f(1 ^2) ;");
        fault(1, "fun f a = f(1)^(2) ;");
        sentence = "_ -> EXPR (the last one)";
        fine("fun f x = match x { _ -> 1 } ;");
        fine("fun f x = match x { A -> 1 | _ -> 1 } ;");
        fault(1, "fun f x = match x { _ -> 1 ^| _ -> 1 } ;");
        fault(1, "fun f x = match x { _ -> 1 ^| A -> 1 } ;");
        fault(1, "fun f x = match x { A -> 1 | ^} ;");
        fault(1, "fun f x = match x { ^| A -> 1 } ;");
        fault(1, "fun f x = match x { A(^_) -> 1 } ;");
        fault(1, "fun f x = match ^A { _ -> 1 } ;");
        fault(1, "fun f x = match x ^( _ -> 1 ) ;");
        sentence = "A CALL of a FUNCTION without names told is its NAME alone, where no NAME told is so called.";
        ReuseHouse house = with("fun a = P(g, let g = 3 in g, g) ; fun g = 5 ; fun h g = g ;");
        due("the function, the name, the function", value(house, 0), "P(5,3,5)");
        due("a name told", value(house, 2), "0");
    }

    private static void endOfTheText() {
        sentence = "1 FORM: (the end: its place)";
        String whole = "fun f x = let a = ( 1 + x ) * 2 in if a < 3 then match x { A ( b , c ) -> b | B -> 1 | _ -> g ( x ) } "
            + "else P ( 1 , Q ( a , 2 ) ) ; fun g y = y - 1 ;";
        int end = whole.indexOf(" ; fun g") + 2;
        for (int i = 1; i <= whole.length(); i++) {
            boolean behindToken = i == whole.length() || whole.charAt(i) == ' ' && whole.charAt(i - 1) != ' ';
            if (behindToken && i != end && i != whole.length()) {
                fault(1, whole.substring(0, i) + "^");
                fault(1, whole.substring(0, i) + " \n ^");
            }
        }
        fine(whole);
        fault(2, whole.substring(0, end).replace("g ( x )", "^g ( x )"));
        ReuseHouse house = new ReuseHouse();
        give(house, whole);
        due("program of fewer bytes than there are", house.program(9), -1);
        due("fault", house.fault(), 1);
        due("where is the end of those", house.where(), 9);
    }

    private static void untold() {
        sentence = "2 a NAME that is told nowhere around it, at it";
        fault(2, "fun f x = match ^y { _ -> 1 } ;");
        fault(2, "fun f x = match ^y ?");
        fault(2, "fun f x = match ^y");
        fault(2, "fun f x = match ^f { _ -> 1 } ;");
        fault(2, "fun g = 1 ; fun f x = match ^g { _ -> 1 } ;");
        fault(2, "fun f x = (let y = 1 in y) + (match ^y { _ -> 1 }) ;");
        fault(2, "fun f x = let y = match ^y { _ -> 1 } in y ;");
        fault(2, "fun f x = match x { A(y) -> 1 | _ -> match ^y { _ -> 1 } } ;");
        fault(2, "fun f x = 1 ; fun g y = match ^x { _ -> 1 } ;");
        fine("fun f x = match x { A(y) -> match y { B(z) -> match z { _ -> match y { _ -> 1 } } } } ;");
        sentence = "2 a NAME (a CALL's, and a NAME alone that might be a FUNCTION: behind the whole)";
        fault(2, "fun f x = ^y ;");
        fault(2, "fun f x = ^y(1) ;");
        fault(2, "fun f x = ^x(1) ;");
        fault(2, "fun f x = let y = ^y in y ;");
        fault(1, "fun f x = y ^");
        fault(1, "fun f x = y(1) ; ^?");
        fault(3, "fun f x = y ; fun ^f = 1 ;");
        fault(4, "fun f x = y + A + ^A(1) ;");
        fault(5, "fun f x = y + A(1, 2, 3, ^4) ;");
        fault(2, "fun f x = y + (match ^z { _ -> 1 }) ;");
        fine("fun f x = y ; fun y = 1 ;");
        fine("fun f x = y(1) ; fun y z = 1 ;");
    }

    private static void toldTwice() {
        sentence = "3 a NAME told twice (two FUNCTIONS), at the second";
        fault(3, "fun f = 1 ; fun g = 1 ; fun ^f a = 2 ;");
        fault(3, "fun f = 1 ; fun ^f ?");
        fine("fun f f = 1 ; fun g f = 1 ;");
        sentence = "3 (two names of one FUNCTION)";
        fault(3, "fun f a ^a = 1 ;");
        fault(3, "fun f a b c d e ^a = 1 ;");
        fine("fun f a b = 1 ; fun g b a = 1 ;");
        sentence = "3 (two names of one ARM)";
        fault(3, "fun f x = match x { A(b, ^b) -> 1 } ;");
        fault(3, "fun f x = match x { A(b, c, ^b) -> 1 } ;");
        fine("fun f x = match x { A(b, c) -> 1 | B(c, b) -> 1 } ;");
        sentence = "3 (a let's, an ARM's that is told around it)";
        fault(3, "fun f a = let ^a = 1 in a ;");
        fault(3, "fun f = let a = 1 in let ^a = 1 in a ;");
        fault(3, "fun f x = match x { A(^x) -> 1 } ;");
        fault(3, "fun f x = match x { A(b) -> let ^b = 1 in b } ;");
        fault(3, "fun f x = let b = 1 in match x { A(^b) -> 1 } ;");
        fault(3, "fun f x = match x { A(b) -> match b { A(^b) -> 1 } } ;");
        fine("fun f = (let a = 1 in a) + (let a = 1 in a) ;");
        fine("fun f = let a = (let a = 1 in a) in a ;");
        fine("fun f x = match x { A(b) -> b | _ -> let b = 1 in b } ;");
        fine("fun f x = let f = 1 in f ;");
        sentence = "3 (a KIND twice in a match)";
        fault(3, "fun f x = match x { A -> 1 | ^A -> 2 } ;");
        fault(3, "fun f x = match x { A -> 1 | B -> 2 | ^A -> 2 } ;");
        fault(3, "fun f x = match x { A(b) -> 1 | ^A(c) -> 2 } ;");
        fault(3, "fun f x = match x { A -> match x { A -> 1 } | ^A -> 2 } ;");
        fine("fun f x = match x { A -> match x { A -> 1 | B -> 2 } | B -> match x { A -> 1 } } ;");
    }

    private static void otherFields() {
        sentence = "4 a KIND with other fields than at first, at it";
        fault(4, "fun f = A + ^A(1) ;");
        fault(4, "fun f = A(1) + ^A ;");
        fault(4, "fun f = A(1, 2) + ^A(1) ;");
        fault(4, "fun f = A(1, 2) + ^A(1, 2, 3) ;");
        fault(4, "fun f x = match x { A -> ^A(1) } ;");
        fault(4, "fun f x = A(1) ; fun g x = match x { ^A -> 1 } ;");
        fault(4, "fun f x = A(1) ; fun g x = match x { ^A(b, c) -> 1 } ;");
        fault(4, "fun f x = A ; fun g x = match x { ^A(b) -> 1 } ;");
        sentence = "4 (met when it is told to its end)";
        fault(1, "fun f = A(1) + A(1, 2 ^;");
        fault(5, "fun f = A(1) + A(1, 2, 3, ^4) ;");
        fault(3, "fun f x = A(1) ; fun g x = match x { A(b, ^b) -> 1 } ;");
        fault(4, "fun f = A(1) + ^A(1, 2) ?");
        fault(4, "fun f = A(1) + ^A ?");
        fault(4, "fun f x = A(1) ; fun g x = match x { ^A(b, c) ?");
        fault(4, "fun f x = A(1) ; fun g x = match x { ^A = ");
        fault(4, "fun f = A(1) + A(B, ^B(1)) ;");
        sentence = "A KIND has as many fields as where it was first told to its end (its ) , or the KIND alone)";
        fault(4, "fun f = ^A(1, A(2)) ;");
        fault(4, "fun f = ^A(A) ;");
        fault(4, "fun f = ^A(A(1), A(2), 3) ;");
        fine("fun f = A(A(A(1, 2), 3), A(4, 5)) ;");
        fault(4, "fun f x = match x { A(b) -> 1 | B -> ^A(1, 2) } ;");
        ReuseHouse house = new ReuseHouse();
        take(house, "fun f = A(1) ;");
        due("another program may tell it otherwise", take(house, "fun f = A(1, 2) ;"), 1);
    }

    private static void manyMayStandThere() {
        sentence = "5 MANY: at its first TOKEN, if that may stand there (else 1)";
        fault(1, "fun f a b c d e g ^1 = 1 ;");
        fault(1, "fun f = A(1, 2, 3, ^;");
        fault(1, "fun f = " + "(".repeat(30) + "^) ;");
        fault(1, "fun f a b c d e g = " + lets(18) + "let ^1 = 1 in 1 ;");
        fault(1, "fun f a b c d e g = " + lets(18) + "match a { A(^1) -> 1 } ;");
        fault(1, "fun f x = match x { A -> 1 | B -> 1 | C -> 1 | D -> 1 | E -> 1 | F -> 1 | G -> 1 | H -> 1 | ^1");
    }

    private static void leastNumberOfOnePlace() {
        sentence = "the first that is met from the left (of one place the least number)";
        fault(3, "fun f a b c d e g ^a = 1 ;");
        fault(3, "fun f a b c d e g = " + lets(18) + "let ^a = 1 in 1 ;");
        fault(3, "fun f x = match x { A(b, c, d, ^b) -> 1 } ;");
        fault(3, "fun f x = match x { A -> 1 | B -> 1 | C -> 1 | D -> 1 | E -> 1 | F -> 1 | G -> 1 | H -> 1 | ^A -> 1 } ;");
        fault(3, "fun f x = match x { A(b) -> 1 | ^A -> 1 } ;");
        fault(5, "fun f = " + "(".repeat(30) + "^A(1, 2, 3, 4) ;");
        sentence = "FAULTS, the first that is met from the left";
        fault(2, "fun f x = match ^z { A(b, b) -> 1 } ;");
        fault(3, "fun f x ^x = A(1, 2, 3, 4) + A ;");
        fault(4, "fun f x = A(1) + ^A + (match z { _ -> 1 }) ;");
        fault(5, "fun f x = A(1, 2, 3, ^4) ; fun f = ? ;");
        fault(1, "fun f x = ^? ; fun f = 1 ;");
    }

    private static void callsBehindTheWhole() {
        sentence = "Behind a whole without these the first CALL, from the left, of what is no FUNCTION (2), at its NAME";
        fault(2, "fun f x = 1 + ^g + h ;");
        fault(2, "fun f x = f(1) ; fun g = ^h(1) ; fun i = g(1) ;");
        fault(2, "fun f x = ^g(h(1)) ;");
        fault(2, "fun f x = f(^g) + h ;");
        fault(2, "fun f x = ^g(f(1, 2)) ;");
        sentence = "or with other arguments than names told (4), at its NAME";
        fault(4, "fun f x = ^f ;");
        fault(4, "fun f x = ^f(1, 2) ;");
        fault(4, "fun f = ^f(1) ;");
        fault(4, "fun f x y = ^f(1) ;");
        fault(4, "fun f x = ^f(g(1), 2) ;");
        fault(4, "fun f x = f(^f) ;");
        fault(4, "fun f x = ^g(1) + h ; fun g = 1 ;");
        fault(2, "fun f x = ^h + g(1) ; fun g = 1 ;");
        fault(4, "fun f a b c d e g = 1 ; fun h = ^f(1, 2, 3, 4, 5) ;");
        fine("fun f a b c d e g = h ; fun h = f(1, 2, 3, 4, 5, 6) ;");
        fine("fun f x = if x then f(f(f(x - 1))) else g ; fun g = f(0) ;");
    }

    private static void aboutOthers() {
        sentence = "about: NONE.";
        ReuseHouse house = with("fun f a = a ; fun g = 1 ;");
        int[] functions = {-1, 2, 3, 29, 30, 31, Integer.MIN_VALUE, Integer.MAX_VALUE};
        for (int f : functions) {
            for (int what = 0; what <= 4; what++) {
                due("about(" + f + ", " + what + ")", house.about(f, what), -1);
            }
        }
        int[] others = {-1, 5, 6, Integer.MIN_VALUE, Integer.MAX_VALUE};
        for (int what : others) {
            due("about(0, " + what + ")", house.about(0, what), -1);
            due("about(1, " + what + ")", house.about(1, what), -1);
        }
        due("about(1, 4)", house.about(1, 4), 0);
        take(house, "fun h a b c = 1 ;");
        due("of the program now", house.about(0, 0), 3);
        due("it has fewer functions", house.about(1, 0), -1);
    }

    /** What 0 to 4 of function 0. */
    private static void facts(String text, int... want) {
        ReuseHouse house = with(text);
        for (int what = 0; what < want.length; what++) {
            due("about(0, " + what + ") of " + text, house.about(0, what), want[what]);
        }
    }

    private static void aboutCounts() {
        sentence = "about: what 0 how many names told";
        facts("fun f = let a = 1 in a ;", 0, 1, 0, 0, 0);
        facts("fun f a b c d e g = 1 ;", 6, 6, 0, 0, 0);
        sentence = "about: 1 how many NAMES at most are told around one place";
        facts("fun f = 1 ;", 0, 0);
        facts("fun f a = (let b = 1 in let c = 1 in 1) + (let d = 1 in 1) ;", 1, 3);
        facts("fun f a = let b = (let c = 1 in let d = 1 in 1) in 1 ;", 1, 3);
        facts("fun f a = match a { A(b, c, d) -> 1 | B(b, c) -> let d = 1 in let e = 1 in 1 | C -> 1 } ;", 1, 5);
        facts("fun f a b c d e g = " + lets(18) + "1 ;", 6, 24);
        facts("fun f a = 1 ; fun g a b = 1 ;", 1, 1);
        sentence = "about: 2 the KINDS with fields in it (not those of ARMS)";
        facts("fun f = A + B + C ;", 0, 0, 0);
        facts("fun f x = match x { A(a, b) -> 1 | B(a) -> 2 } ;", 1, 3, 0);
        facts("fun f = A(A(A(1))) ;", 0, 0, 3);
        facts("fun f x = if A(1) then T(B, A(2), 3) else (let a = P(1, 2) in f(A(a))) ;", 1, 2, 5);
        sentence = "about: 3 its matches";
        facts("fun f x = match x { A -> match x { B -> 1 } | _ -> (match x { C -> 1 }) + (match x { D -> 1 }) } ;",
            1, 1, 0, 4, 0);
        ReuseHouse house = with("fun f x = match x { A(a) -> A(a) } ; fun g x = x ; fun h x = A(1) ;");
        due("matches of another function", house.about(1, 3), 0);
        due("kinds of another function", house.about(1, 2), 0);
        due("kinds of the third function", house.about(2, 2), 1);
        due("shells of another function", house.about(2, 4), 0);
    }

    private static void shells(int want, String text) {
        due("about(0, 4) of " + text, with(text).about(0, 4), want);
    }

    private static void aboutShells() {
        sentence = "about: 4 in how many ARMS of these a SHELL may be kept";
        shells(0, "fun f x = 1 ;");
        shells(1, "fun f x = match x { A(a) -> A(a) } ;");
        shells(3, "fun f x = match x { A(a) -> A(a) | B(a, b) -> P(a, b) | C(a, b, c) -> T(a, b, c) | D -> 1 } ;");
        shells(8, "fun f x = match x { A(a) -> I(a) | B(a) -> I(a) | C(a) -> I(a) | D(a) -> I(a) | E(a) -> I(a) "
            + "| F(a) -> I(a) | G(a) -> I(a) | H(a) -> I(a) } ;");
        sentence = "about: 4 (the NAME is not NEEDED in it or behind";
        shells(0, "fun f x = match x { A(a) -> A(x) } ;");
        shells(0, "fun f x = P(match x { A(a) -> A(a) }, x) ;");
        shells(1, "fun f x = P(x, match x { A(a) -> A(a) }) ;");
        shells(0, "fun f x = let y = match x { A(a) -> A(a) } in x ;");
        shells(1, "fun f x = if x then match x { A(a) -> A(a) } else x ;");
        shells(0, "fun f x = (if 1 then match x { A(a) -> A(a) } else 2) + x ;");
        shells(1, "fun f x = match x { A(a) -> A(a) | _ -> A(x) } ;");
        shells(1, "fun f x = match x { A(a) -> P((let y = 1 in y), A(a)) | B(y) -> y } ;");
        sentence = "about: 4 the KIND has fields";
        shells(0, "fun f x = match x { A -> B(1) | _ -> B(2) } ;");
        shells(0, "fun f x = match x { A -> B } ;");
        sentence = "about: 4 and one of as many is in the ARM)";
        shells(0, "fun f x = match x { A(a) -> P(a, a) | P(a, b) -> A(a) } ;");
        shells(0, "fun f x = match x { A(a) -> a | _ -> A(1) } ;");
        shells(0, "fun f x = P(match x { A(a) -> a }, A(1)) ;");
        shells(1, "fun f x = match x { A(a) -> f(if a then 1 else 1 + (let b = g(B(2)) in b)) } ; fun g x = x ;");
        shells(0, "fun f x = match x { A(a) -> g(a) } ; fun g x = A(x) ;");
        shells(2, "fun f x = match x { A(a) -> match a { B(b) -> C(b) } } ;");
        shells(1, "fun f x = match x { A(a) -> match a { P(b, c) -> C(b) } } ;");
    }
}
