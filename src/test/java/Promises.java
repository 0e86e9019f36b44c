import java.util.NoSuchElementException;
import java.util.Random;

/** Each promise of the document: ordinary inputs, edges, wrong inputs. */
public final class Promises {
    private static int wrong = 0;
    private static String now = "";
    private static final String LISTS = "fun make n = if 0 < n then Cons(n, make(n - 1)) else Nil ; "
        + "fun turn l a = match l { Cons(x, y) -> turn(y, Cons(x, a)) | Nil -> a } ; "
        + "fun main n = turn(make(n), Nil) ; ";

    public static void main(String[] args) {
        newObject();
        feed();
        program();
        tokens();
        faultForm();
        faultUntold();
        faultTwice();
        faultFields();
        faultMany();
        faultOrder();
        about();
        run();
        runStuck();
        runFull();
        runDeep();
        runCut();
        needs();
        shells();
        plain();
        show();
        out();
        release();
        count();
        anyCalls();
        System.out.println(wrong == 0 ? "all promises hold" : wrong + " answers are not as due");
        if (wrong != 0) {
            System.exit(1);
        }
    }

    private static void due(String what, long got, long want) {
        if (got != want) {
            wrong++;
            System.out.println(now + ": " + what + " answered " + got + ", due is " + want);
        }
    }

    private static void due(String what, String got, String want) {
        if (!got.equals(want)) {
            wrong++;
            System.out.println(now + ": " + what + " answered " + got + ", due is " + want);
        }
    }

    private static void give(ReuseHouse house, String text) {
        for (int i = 0; i < text.length(); i += 20) {
            int[] four = new int[5];
            for (int k = 0; k < 20; k++) {
                int sign = i + k < text.length() ? text.charAt(i + k) : ' ';
                four[k / 4] = four[k / 4] << 8 | sign;
            }
            house.feed(four[0], four[1], four[2], four[3], four[4]);
        }
    }

    private static int take(ReuseHouse house, String text) {
        give(house, text);
        return house.program(text.length());
    }

    private static ReuseHouse with(String text) {
        ReuseHouse house = new ReuseHouse();
        int functions = take(house, text);
        if (functions < 1) {
            due("program of " + text + " (fault " + house.fault() + " at " + house.where() + ")", functions, 1);
        }
        return house;
    }

    /** The text has a ^ right ahead of the place that is due; without one the program is taken. */
    private static void fault(int number, String marked) {
        int place = marked.indexOf('^');
        String text = marked.replace("^", "");
        ReuseHouse house = new ReuseHouse();
        int functions = take(house, text);
        due("fault of " + marked, house.fault(), number);
        due("where of " + marked, house.where(), place);
        due("program is refused: " + marked, functions == ReuseHouse.NONE ? 1 : 0, number == 0 ? 0 : 1);
    }

    private static String shown(ReuseHouse house, boolean other) {
        int size = house.show(other);
        if (size == ReuseHouse.NONE) {
            return "none";
        }
        StringBuilder text = new StringBuilder();
        for (int i = 0; i < size; i++) {
            text.append((char) house.out(i));
        }
        return text.toString();
    }

    private static boolean throwsAt(ReuseHouse house, int i) {
        try {
            house.out(i);
            return false;
        } catch (NoSuchElementException none) {
            return true;
        }
    }

    /** How it ended, then the counts 1 to 6. */
    private static String counts(ReuseHouse house, int f, int cells, int a) {
        StringBuilder text = new StringBuilder();
        text.append(house.run(f, cells, 20000, a, 0, 0, 0)).append(':');
        for (int what = 1; what <= 6; what++) {
            text.append(' ').append(house.count(what));
        }
        return text.toString();
    }

    private static String repeat(String text, int times) {
        return text.repeat(times);
    }

    private static void newObject() {
        now = "1 a new object";
        ReuseHouse house = new ReuseHouse();
        due("NONE", ReuseHouse.NONE, -1);
        due("fault", house.fault(), 0);
        due("where", house.where(), -1);
        due("about", house.about(0, 0), -1);
        due("run", house.run(0, 1, 1, 0, 0, 0, 0), -1);
        due("plain", house.plain(0, 1, 0, 0, 0, 0), -1);
        due("show", house.show(false), -1);
        due("show other", house.show(true), -1);
        due("release", house.release(), -1);
        due("count", house.count(0), -1);
        due("out throws", throwsAt(house, 0) ? 1 : 0, 1);
        due("feed", house.feed(0, 0, 0, 0, 0), 20);
    }

    private static void feed() {
        now = "2 feed";
        ReuseHouse house = new ReuseHouse();
        for (int i = 1; i <= 100; i++) {
            due("feed", house.feed(0x20202020, 0x20202020, 0x20202020, 0x20202020, 0x20202020), i * 20);
        }
        due("feed beyond", house.feed(0, 0, 0, 0, 0), -1);
        due("the end of 2,000 blanks", house.program(2000), -1);
        due("where", house.where(), 2000);
        due("feed on an empty tape", house.feed(0x66756E20, 0x66203D20, 0x31323334, 0x35203B20, 0xFF000000), 20);
        due("bytes from the highest", house.program(15), 1);
        house.run(0, 0, 9, 0, 0, 0, 0);
        due("value", shown(house, false), "12345");
    }

    private static void program() {
        now = "3 program";
        ReuseHouse house = new ReuseHouse();
        give(house, "fun f = 1 ; fun g = 2 ;");
        due("too many bytes", house.program(41), -1);
        due("fault", house.fault(), 0);
        due("where", house.where(), -1);
        due("below 0", house.program(-1), -1);
        due("least number", house.program(Integer.MIN_VALUE), -1);
        due("greatest number", house.program(Integer.MAX_VALUE), -1);
        due("the tape stays", house.program(40), 2);
        due("the tape is empty", house.program(1), -1);
        due("fault", house.fault(), 0);
        give(house, "fun f = 3 ; fun g = ");
        due("only the first bytes", house.program(12), 1);
        due("the rest is gone", house.feed(0, 0, 0, 0, 0), 20);
        due("a fault", house.program(20), -1);
        due("fault", house.fault(), 1);
        due("the tape is empty behind a fault", house.program(1), -1);
        due("the former one stays", house.about(0, 0), 0);
        due("it runs", house.run(0, 0, 9, 0, 0, 0, 0), 1);
        due("its value", shown(house, false), "3");
        house.plain(0, 9, 0, 0, 0, 0);
        take(house, "fun f = ;");
        due("a run stays behind a fault", house.count(0), 1);
        due("a value stays behind a fault", shown(house, false), "3");
        due("where of the fault", house.where(), 8);
        house.program(-1);
        due("no fault any more", house.fault(), 0);
        due("where without one", house.where(), -1);
        take(house, "fun f = 4 ;");
        due("no run any more", house.count(0), -1);
        due("no value any more", house.show(false), -1);
        due("no other any more", house.show(true), -1);
        due("nothing to release", house.release(), -1);
        due("where of a program that is taken", house.where(), -1);
        due("OUT stays", house.out(0), '3');
    }

    private static void tokens() {
        now = "3 tokens";
        fault(0, "fun f=1;");
        fault(0, "\nfun\nf\n=\n1\n;\n");
        fault(1, "fun f = ^\t1 ;");
        fault(0, "fun abcdefgh = Abcdefgh ;");
        fault(1, "fun ^abcdefghi = 1 ;");
        fault(1, "fun f = ^Abcdefghi ;");
        fault(0, "fun f = 123456789 ;");
        fault(1, "fun f = ^1234567890 ;");
        fault(1, "fun f = ^1a ;");
        fault(1, "fun f = ^a1 ;");
        fault(1, "fun f = ^AB ;");
        fault(1, "fun f = ^aB ;");
        fault(1, "fun f = ^A1 ;");
        fault(1, "fun f = 1 ^> 2 ;");
        fault(1, "fun f = 1 ^-> 2 ;");
        fault(1, "fun f = 1 - ^> 2 ;");
        fault(1, "fun f = 1 ^\u00e9 ;");
        fault(1, "fun f = 1 ^\u0000 ;");
        fault(1, "fun f = ^\u0080 ;");
        fault(0, "fun lets = inn ; fun inn = 1 ;");
        fault(0, "fun f x=match x{_->1};");
    }

    private static void faultForm() {
        now = "4, 5 fault 1";
        fault(1, "^");
        fault(1, "  ^");
        fault(1, "^1");
        fault(1, "fun^");
        fault(1, "fun ^let = 1 ;");
        fault(1, "fun f ^A = 1 ;");
        fault(1, "fun f = 1   ^");
        fault(1, "fun f = 1 ; ^f");
        fault(1, "fun f = ^;");
        fault(1, "fun f = 1 < 2 ^< 3 ;");
        fault(1, "fun f = 1 + ^;");
        fault(1, "fun f = 1 + ^let x = 1 in x ;");
        fault(1, "fun f = 1 ^= 1 ;");
        fault(1, "fun f = ^- 1 ;");
        fault(1, "fun f = f(^) ;");
        fault(1, "fun f = A(^) ;");
        fault(1, "fun f = A(1 ^;");
        fault(1, "fun f = A(1, 2, 3, ^) ;");
        fault(1, "fun f = (1 ^;");
        fault(1, "fun f = 1 ^1 ;");
        fault(1, "fun f x = match ^1 { _ -> 1 } ;");
        fault(1, "fun f x = match x { ^} ;");
        fault(1, "fun f x = match x { A(^1) -> 1 } ;");
        fault(1, "fun f x = match x { A ^= 1 } ;");
        fault(1, "fun f x = match x { A -> 1 | ^} ;");
        fault(1, "fun f x = match x { _ -> 1 ^| A -> 1 } ;");
        fault(1, "fun f x = match x { _^(a) -> 1 } ;");
        fault(1, "fun f = if 1 then 2 ^;");
        fault(1, "fun f = let x = 1 ^; x ;");
        fault(1, "fun f = ^_ ;");
        fault(0, "fun f x = (match x { _ -> let y = 1 in if y then y else y }) + 1 * (2) ;");
    }

    private static void faultUntold() {
        now = "4, 5 fault 2";
        fault(2, "fun f = ^x ;");
        fault(2, "fun f = ^g(1) ;");
        fault(2, "fun f x = match ^y { _ -> 1 } ;");
        fault(2, "fun g = 1 ; fun f x = match ^g { _ -> 1 } ;");
        fault(2, "fun f = (let x = 1 in x) + ^x ;");
        fault(2, "fun f = let x = ^x in x ;");
        fault(2, "fun f y = match y { A(x) -> x | _ -> ^x } ;");
        fault(2, "fun f x = ^x(1) ;");
        fault(2, "fun f x = f(^g(h(1)) + i) ;");
        fault(0, "fun f = g ; fun g = 1 ;");
        fault(0, "fun f f = f ;");
        fault(0, "fun f x = x(x) ; fun x y = y ;");
    }

    private static void faultTwice() {
        now = "4, 5 fault 3";
        fault(3, "fun f = 1 ; fun ^f = 2 ;");
        fault(3, "fun f a b ^a = 1 ;");
        fault(3, "fun f a = let ^a = 1 in a ;");
        fault(3, "fun f = let a = 1 in let ^a = 2 in a ;");
        fault(3, "fun f a = match a { A(^a) -> 1 } ;");
        fault(3, "fun f a = match a { A(b, ^b) -> 1 } ;");
        fault(3, "fun f a = match a { A(b) -> 1 | ^A(c) -> 2 } ;");
        fault(3, "fun f a = match a { A -> 1 | B -> 2 | ^A -> 2 } ;");
        fault(0, "fun f a = match a { A(b) -> match b { A(c) -> c } | B(b) -> b } ;");
        fault(0, "fun f = (let a = 1 in a) + (let a = 2 in a) ;");
        fault(0, "fun f = let a = let a = 1 in a in a ;");
        fault(0, "fun f a = 1 ; fun g a = let f = a in f ;");
    }

    private static void faultFields() {
        now = "4, 5 fault 4";
        fault(4, "fun f = A(1) + ^A ;");
        fault(4, "fun f = A + ^A(1) ;");
        fault(4, "fun f = ^A(1, A) ;");
        fault(4, "fun f = ^A(1, A(2)) ;");
        fault(4, "fun f a = match a { A(b) -> ^A(1, 2) } ;");
        fault(4, "fun f a = match a { A -> 1 } ; fun g a = match a { ^A(b) -> 1 } ;");
        fault(4, "fun f a = ^f ;");
        fault(4, "fun f a = ^f(1, 2) ;");
        fault(4, "fun f = ^f(1) ;");
        fault(4, "fun f a = ^f(1, 2, 3, 4, 5, 6, 7, 8) ;");
        fault(0, "fun f = A(A(A(B))) ;");
        fault(0, "fun f a b c d e g = f(1, 2, 3, 4, 5, 6) ;");
    }

    private static void faultMany() {
        now = "4, 5 fault 5";
        StringBuilder functions = new StringBuilder();
        for (int i = 0; i < 30; i++) {
            functions.append("fun f").append((char) ('a' + i % 26)).append(i < 26 ? "" : "x").append(" = 1 ; ");
        }
        fault(0, functions.toString());
        fault(5, functions + "^fun g = 1 ;");
        fault(5, functions + "^fun");
        fault(0, "fun f a b c d e g = 1 ;");
        fault(5, "fun f a b c d e g ^h = 1 ;");
        StringBuilder kinds = new StringBuilder("fun f = 1");
        for (int i = 0; i < 20; i++) {
            kinds.append(" + ").append((char) ('A' + i));
        }
        fault(0, kinds + " ;");
        fault(5, kinds + " + ^X ;");
        fault(5, kinds + " ; fun g x = match x { ^X -> 1 } ;");
        fault(5, "fun f = A(1, 2, 3, ^4) ;");
        fault(5, "fun f x = match x { A(a, b, c, ^d) -> 1 } ;");
        fault(0, "fun f = " + repeat("(", 29) + "1" + repeat(")", 29) + " ;");
        fault(5, "fun f = " + repeat("(", 30) + "^1" + repeat(")", 30) + " ;");
        fault(1, "fun f = " + repeat("(", 30) + "^) ;");
        fault(5, "fun f = " + repeat("f(", 30) + "^f" + repeat(")", 30) + " ;");
        fault(0, "fun f = " + repeat("if 1 then 2 else ", 29) + "1 ;");
        fault(5, "fun f = " + repeat("if 1 then 2 else ", 29) + "if ^1 then 2 else 1 ;");
        fault(0, "fun f=1" + repeat("+1", 996) + ";");
        fault(0, "fun f a b c d e g = " + lets(18) + "1 ;");
        fault(5, "fun f a b c d e g = " + lets(18) + "let ^y = 1 in y ;");
        fault(5, "fun f a b c d e g = " + lets(17) + "match a { A(y, ^z) -> 1 } ;");
        fault(0, "fun f a b c d e g = " + lets(17) + "match a { A(y) -> 1 | B(z) -> z } ;");
        String arms = "fun f x = match x { A -> 1 | B -> 1 | C -> 1 | D -> 1 | E -> 1 | F -> 1 | G -> 1 | ";
        fault(0, arms + "_ -> 1 } ;");
        fault(5, arms + "H -> 1 | ^_ -> 1 } ;");
        fault(5, arms + "H -> 1 | ^I -> 1 } ;");
        fault(1, arms + "H -> 1 | ^} ;");
        fault(3, arms + "H -> 1 | ^A -> 1 } ;");
    }

    private static String lets(int count) {
        StringBuilder text = new StringBuilder();
        for (int i = 0; i < count; i++) {
            text.append("let x").append((char) ('a' + i)).append(" = 1 in ");
        }
        return text.toString();
    }

    private static void faultOrder() {
        now = "4, 5 the first fault";
        fault(3, "fun f a b c d e g ^a = 1 ;");
        fault(3, "fun f a b c d e g = " + lets(18) + "let ^a = 1 in y ;");
        fault(3, "fun f x = match x { A(a, b, c, ^a) -> 1 } ;");
        fault(1, "fun f = x + ^;");
        fault(2, "fun f = ^x + A + A ;");
        fault(4, "fun f = x + A(1) + ^A ;");
        fault(5, "fun f = A(1) + A(1, 2, 3, ^4) ;");
        fault(4, "fun f = A(1) + ^A ? ;");
        fault(2, "fun f x = match ^z ? ;");
        fault(1, "fun f = A(1) + A(1, 2 ^;");
        fault(2, "fun f = ^g(f(1)) ;");
        fault(4, "fun f = ^f(g(1)) ;");
        fault(4, "fun f = A(1) + " + repeat("(", 30) + "^A" + repeat(")", 30) + " ;");
        fault(5, "fun f = A(1) + " + repeat("(", 30) + "^A(1, 2)" + repeat(")", 30) + " ;");
    }

    private static void about() {
        now = "6 about";
        ReuseHouse house = with(LISTS + "fun six a b c d e f = let g = (let h = 1 in h) in match a { "
            + "Cons(i, j) -> Cons(i, Cons(g, j)) | Pair(k, l) -> Nil | One(k) -> Cons(k, a) | _ -> Cons(1, Nil) } ; "
            + "fun kept l = Pair(match l { Cons(x, y) -> Cons(y, x) | Nil -> l }, l) ; "
            + "fun deep l = match l { Cons(x, y) -> if x then match y { Nil -> Cons(1, Nil) | _ -> y } else y } ;");
        int[][] facts = {{1, 1, 1, 0, 0}, {2, 4, 1, 1, 1}, {1, 1, 0, 0, 0}, {6, 9, 4, 1, 1}, {1, 3, 2, 1, 0},
            {1, 3, 1, 2, 1}};
        for (int f = 0; f < facts.length; f++) {
            for (int what = 0; what < 5; what++) {
                due("about(" + f + ", " + what + ")", house.about(f, what), facts[f][what]);
            }
        }
        due("another function", house.about(6, 0), -1);
        due("function -1", house.about(-1, 0), -1);
        due("what 5", house.about(0, 5), -1);
        due("what -1", house.about(0, -1), -1);
        house = with("fun f l = match l { A(a, b) -> B(a) | B(c) -> match c { A(d, e) -> 1 } | C(g) -> C(l) } ;");
        due("a shell wants as many fields, built and not matched", house.about(0, 4), 0);
        due("kinds of arms are not counted", house.about(0, 2), 2);
    }

    private static void run() {
        now = "7 run";
        ReuseHouse house = with("fun f a b c d e g = a * 100000 + b * 10000 + c * 1000 + d * 100 + e * 10 + g ; "
            + "fun g a b = a - b ; fun h = 7 ;");
        due("run", house.run(0, 0, 100, 1, 2, 3, 4), 1);
        due("where", house.where(), -1);
        due("six names", shown(house, false), "123400");
        house.run(1, 0, 100, 5, 7, 9, 9);
        due("two names", shown(house, false), "-2");
        house.run(2, 0, 100, 5, 7, 9, 9);
        due("no names", shown(house, false), "7");
        due("steps", house.count(0), 1);
        due("another function", house.run(3, 0, 1, 0, 0, 0, 0), -1);
        due("function -1", house.run(-1, 0, 1, 0, 0, 0, 0), -1);
        due("cells -1", house.run(0, -1, 1, 0, 0, 0, 0), -1);
        due("cells 401", house.run(0, 401, 1, 0, 0, 0, 0), -1);
        due("steps -1", house.run(0, 0, -1, 0, 0, 0, 0), -1);
        due("steps 20001", house.run(0, 0, 20001, 0, 0, 0, 0), -1);
        due("nothing changes", shown(house, false), "7");
        due("nothing changes", house.count(0), 1);
        due("all bounds", house.run(2, 400, 20000, 0, 0, 0, 0), 1);
        house = with("fun add a b = a + b ; fun less a b = a < b ; fun mul a b = a * b ; "
            + "fun way a b = if a then 1 else 2 ;");
        house.run(0, 0, 9, Integer.MAX_VALUE, 1, 0, 0);
        due("ints wrap", shown(house, false), "-2147483648");
        house.run(2, 0, 9, 65536, 65536, 0, 0);
        due("products wrap", shown(house, false), "0");
        house.run(1, 0, 9, -1, 0, 0, 0);
        due("less", shown(house, false), "1");
        house.run(1, 0, 9, 3, 3, 0, 0);
        due("not less", shown(house, false), "0");
        house.run(3, 0, 9, -5, 0, 0, 0);
        due("then", shown(house, false), "1");
        house.run(3, 0, 9, 0, 0, 0, 0);
        due("else", shown(house, false), "2");
        house = with("fun f=1" + repeat("+1", 996) + ";");
        due("a full tape", house.run(0, 0, 20000, 0, 0, 0, 0), 1);
        due("its value", shown(house, false), "997");
        due("its steps", house.count(0), 1993);
        house = with("fun f = 10 - 4 - 3 * 2 + 1 < 2 ; fun g = 2 * (3 + 4) ;");
        house.run(0, 0, 99, 0, 0, 0, 0);
        due("from the left", shown(house, false), "1");
        due("steps", house.count(0), 11);
        house.run(1, 0, 99, 0, 0, 0, 0);
        due("brackets", shown(house, false), "14");
        due("brackets are no step", house.count(0), 5);
    }

    private static void stops(String text, int how, int cells, int steps, int number) {
        int place = text.indexOf('^');
        ReuseHouse house = with(text.replace("^", ""));
        due("run of " + text, house.run(0, cells, steps, number, 0, 0, 0), how);
        due("where of " + text, house.where(), place);
        due("no value", house.show(false), -1);
        due("none held", house.count(6), 0);
        due("nothing to release", house.release(), -1);
    }

    private static void runStuck() {
        now = "7 STUCK";
        stops("fun f a = A ^+ 1 ;", 2, 0, 99, 0);
        stops("fun f a = 1 ^- A ;", 2, 0, 99, 0);
        stops("fun f a = 1 * 2 ^* A(1) ;", 2, 9, 99, 0);
        stops("fun f a = (A ^+ 1) + (1 + A) ;", 2, 9, 99, 0);
        stops("fun f a = A ^< A ;", 2, 0, 99, 0);
        stops("fun f a = ^if A then 1 else 2 ;", 2, 0, 99, 0);
        stops("fun f a = 1 + (^match a { A -> 1 | B(b) -> 2 }) ;", 2, 0, 99, 0);
        stops("fun f a = let b = B(1) in ^match b { A -> 1 | C(c) -> 2 } ;", 2, 9, 99, 0);
        stops("fun f a = 1 + g(A ^+ 1) ; fun g a = 1 ;", 2, 0, 99, 0);
        stops("fun f a = g(1) ; fun g a = 1 ^+ B ;", 2, 0, 99, 0);
        ReuseHouse house = with("fun f a = match a { A -> 1 | _ -> a } ;");
        due("_ fits an int", house.run(0, 0, 9, 6, 0, 0, 0), 1);
        due("its value", shown(house, false), "6");
    }

    private static void runFull() {
        now = "7 FULL";
        stops("fun f a = ^A(1) ;", 3, 0, 99, 0);
        stops("fun f a = A(^A(1)) ;", 3, 0, 99, 0);
        stops("fun f a = ^A(A(1)) ;", 3, 1, 99, 0);
        stops("fun f a = let b = A(1) in match b { A(c) -> let d = ^B(1, 2) in A(c) } ;", 3, 1, 99, 0);
        ReuseHouse house = with("fun f a = let b = A(1) in match b { A(c) -> let d = A(2) in c } ;");
        due("a shell is no free cell, but is built anew", counts(house, 0, 1, 0), "1: 1 1 1 1 0 0");
        house = with(LISTS);
        due("400 cells", house.run(0, 400, 20000, 99, 0, 0, 0), 1);
        due("3 cells", house.run(2, 3, 20000, 3, 0, 0, 0), 1);
        due("2 cells", house.run(2, 2, 20000, 3, 0, 0, 0), 3);
        due("made", house.count(1), 2);
    }

    private static void runDeep() {
        now = "7 DEEP";
        ReuseHouse house = with(LISTS);
        due("100 calls", house.run(0, 400, 20000, 99, 0, 0, 0), 1);
        due("open", house.count(7), 100);
        due("101 calls", house.run(0, 400, 20000, 100, 0, 0, 0), 4);
        due("where", house.where(), LISTS.indexOf("make(n"));
        due("open", house.count(7), 100);
        stops("fun f a = 1 + ^f(a) ;", 4, 0, 20000, 0);
        stops("fun f a = g ; fun g = ^f(1) ;", 4, 0, 20000, 0);
        stops("fun f a = g(A) ; fun g b = f(^h(1)) ; fun h c = g(B(1)) ;", 4, 400, 20000, 0);
    }

    private static void runCut() {
        now = "7 CUT";
        String[] texts = {"fun f a = ^let b = 1 + 2 in if b then A(b) else a ;",
            "fun f a = let b = 1 ^+ 2 in if b then A(b) else a ;",
            "fun f a = let b = ^1 + 2 in if b then A(b) else a ;",
            "fun f a = let b = 1 + ^2 in if b then A(b) else a ;",
            "fun f a = let b = 1 + 2 in ^if b then A(b) else a ;",
            "fun f a = let b = 1 + 2 in if ^b then A(b) else a ;",
            "fun f a = let b = 1 + 2 in if b then ^A(b) else a ;",
            "fun f a = let b = 1 + 2 in if b then A(^b) else a ;"};
        for (int steps = 0; steps < texts.length; steps++) {
            stops(texts[steps], 5, 9, steps, 0);
        }
        due("enough", with(texts[0].replace("^", "")).run(0, 9, 8, 0, 0, 0, 0), 1);
        String[] others = {"fun f a = (1) + 2 * 3 ^- 4 ;", "fun f a = (1) ^+ 2 * 3 - 4 ;", "fun f a = (^1) + 2 * 3 - 4 ;",
            "fun f a = (1) + 2 ^* 3 - 4 ;", "fun f a = (1) + ^2 * 3 - 4 ;", "fun f a = (1) + 2 * ^3 - 4 ;",
            "fun f a = (1) + 2 * 3 - ^4 ;"};
        for (int steps = 0; steps < others.length; steps++) {
            stops(others[steps], 5, 9, steps, 0);
        }
        stops("fun f a = ^match a { _ -> g(a) } ; fun g b = B ;", 5, 0, 0, 0);
        stops("fun f a = match a { _ -> ^g(a) } ; fun g b = B ;", 5, 0, 1, 0);
        stops("fun f a = match a { _ -> g(^a) } ; fun g b = B ;", 5, 0, 2, 0);
        stops("fun f a = match a { _ -> g(a) } ; fun g b = ^B ;", 5, 0, 3, 0);
        ReuseHouse house = with("fun f a = if a then f(a - 1) + f(a - 1) else 1 ;");
        due("20,000 steps", house.run(0, 0, 20000, 90, 0, 0, 0), 5);
        due("steps", house.count(0), 20000);
    }

    private static void needs() {
        now = "7 needs";
        due("used twice", counts(with("fun f a = let b = A(a) in P(b, b) ;"), 0, 400, 1), "1: 2 0 0 2 1 2");
        due("used behind the whole", counts(with("fun f a = let b = A(a) in P(if a then b else 1, b) ;"), 0, 400, 1),
            "1: 2 0 0 2 1 2");
        due("not needed by a let", counts(with("fun f a = let b = A(A(a)) in 1 ;"), 0, 400, 1), "1: 2 0 2 2 0 0");
        due("not needed by a call", counts(with("fun f a = g(A(a), B) ; fun g b c = c ;"), 0, 400, 1),
            "1: 1 0 1 1 0 0");
        due("dropped ahead of all else", counts(with("fun f a = g(A(a)) ; fun g b = A(1) ;"), 0, 1, 1),
            "1: 2 0 1 1 0 1");
        due("dropped as a way begins", counts(with("fun f a = let b = A(a) in if a then A(2) else b ;"), 0, 1, 1),
            "1: 2 0 1 1 0 1");
        due("the other way", counts(with("fun f a = let b = A(a) in if a then A(2) else b ;"), 0, 1, 0),
            "1: 1 0 0 1 0 1");
        due("dropped in an arm", counts(with("fun f a = let b = A(a) in match a { B -> b | _ -> A(2) } ;"), 0, 1, 0),
            "1: 2 0 1 1 0 1");
        due("_ drops the name", counts(with("fun f a = let b = A(a) in match b { _ -> A(2) } ;"), 0, 1, 0),
            "1: 2 0 1 1 0 1");
        due("_ keeps a name that is needed", counts(with("fun f a = let b = A(a) in match b { _ -> b } ;"), 0, 1, 0),
            "1: 1 0 0 1 0 1");
        due("names told again are others",
            counts(with("fun f a = P((let b = A(a) in b), (let b = A(a) in b)) ;"), 0, 400, 1), "1: 3 0 0 3 0 3");
        due("ints and kinds alone are not doubled", counts(with("fun f a = let b = B in P(a, P(a, P(b, b))) ;"),
            0, 400, 1), "1: 3 0 0 3 0 3");
    }

    private static void shells() {
        now = "7 shells";
        String pair = "fun f a = let b = P(A(a), A(a)) in ";
        due("built anew", counts(with(pair + "match b { P(c, d) -> P(d, c) } ;"), 0, 400, 1), "1: 3 1 0 3 0 3");
        due("a field that is not needed", counts(with(pair + "match b { P(c, d) -> P(d, 1) } ;"), 0, 400, 1),
            "1: 3 1 1 3 0 2");
        due("no kind of as many fields", counts(with(pair + "match b { P(c, d) -> A(d) } ;"), 0, 3, 1),
            "1: 4 0 2 3 0 2");
        due("left, then freed", counts(with(pair + "match b { P(c, d) -> if a then c else P(d, c) } ;"), 0, 400, 1),
            "1: 3 0 2 3 0 1");
        due("the name is needed in the arm", counts(with(pair + "match b { P(c, d) -> P(b, c) } ;"), 0, 400, 1),
            "1: 4 0 0 4 1 4");
        due("the name is needed behind", counts(with(pair + "P(match b { P(c, d) -> P(d, c) }, b) ;"), 0, 400, 1),
            "1: 5 0 0 5 2 5");
        due("another holds the cell",
            counts(with("fun f a = let b = P(A(a), 2) in let e = P(b, b) in match e { P(g, h) -> "
                + "match g { P(c, d) -> P(P(c, d), h) } } ;"), 0, 400, 1), "1: 4 1 0 4 2 4");
        due("its last holder goes as the arm begins",
            counts(with("fun f a = let b = P(A(a), 2) in let e = Q(b) in match b { P(c, d) -> if d then c else e } ;"),
                0, 400, 1), "1: 3 0 2 3 2 1");
        due("the latest shell first, and those left of an inner arm are its own",
            counts(with("fun f a = let b = P(1, 2) in let e = T(1, 2, 3) in match b { P(c, d) -> "
                + "let x = match e { T(g, h, i) -> if a then P(g, h) else T(i, 1, 2) } in U(x, c) } ;"), 0, 400, 1),
            "1: 3 1 1 2 0 2");
        due("shells of another call are not taken",
            counts(with("fun f a = let b = P(1, 2) in match b { P(c, d) -> let x = g(c) in P(x, d) } ; "
                + "fun g y = P(y, y) ;"), 0, 400, 1), "1: 2 1 0 2 0 2");
        due("nor those of a call that is open",
            counts(with("fun f a = let b = P(1, 2) in match b { P(c, d) -> if a then g(c) else P(c, d) } ; "
                + "fun g y = P(y, y) ;"), 0, 400, 1), "1: 2 0 1 2 0 1");
        due("freed at once where none is built",
            counts(with("fun f a = let b = B(a) in match b { B(c) -> P(c, c) } ;"), 0, 1, 1), "1: 2 0 1 1 0 1");
        due("behind its arguments",
            counts(with("fun f a = let b = P(1, 2) in match b { P(c, d) -> P(P(c, d), 3) } ;"), 0, 400, 1),
            "1: 2 1 0 2 0 2");
        due("a kind alone keeps none", counts(with("fun f a = let b = B in match b { B -> P(1, 2) } ;"), 0, 400, 1),
            "1: 1 0 0 1 0 1");
    }

    private static void plain() {
        now = "8 plain";
        ReuseHouse house = with(LISTS + "fun grow n = if n then L(grow(n - 1), grow(n - 1)) else E ;");
        due("plain", house.plain(2, 20000, 3, 0, 0, 0), 1);
        due("where", house.where(), -1);
        due("ahead of any run", house.count(0), -1);
        due("the other", shown(house, true), "Cons(1,Cons(2,Cons(3,Nil)))");
        due("no run", house.show(false), -1);
        due("run", house.run(0, 5, 20000, 2, 0, 0, 0), 1);
        due("plain again", house.plain(0, 20000, 1, 0, 0, 0), 1);
        due("the value of the run", shown(house, false), "Cons(2,Cons(1,Nil))");
        due("the other", shown(house, true), "Cons(1,Nil)");
        due("counts of the run", house.count(1), 2);
        due("release", house.release(), 2);
        due("the other stays", shown(house, true), "Cons(1,Nil)");
        due("another function", house.plain(7, 1, 0, 0, 0, 0), -1);
        due("function -1", house.plain(-1, 1, 0, 0, 0, 0), -1);
        due("steps -1", house.plain(0, -1, 0, 0, 0, 0), -1);
        due("steps 20001", house.plain(0, 20001, 0, 0, 0, 0), -1);
        due("nothing changes", shown(house, true), "Cons(1,Nil)");
        due("cut", house.plain(2, 10, 3, 0, 0, 0), 5);
        due("where", house.where(), 42);
        due("no other behind one that has not ended", house.show(true), -1);
        due("deep", house.plain(0, 20000, 100, 0, 0, 0), 4);
        due("1,023 cells", house.plain(3, 20000, 10, 0, 0, 0), 1);
        due("too many for a run", house.run(3, 400, 20000, 10, 0, 0, 0), 3);
        plainFull();
    }

    private static void plainFull() {
        String twenty = repeat("A(", 20) + "0" + repeat(")", 20);
        String text = "fun f n m = let a = g(n) in let b = g(n) in let c = h(m) in A(1) ; "
            + "fun g n = if n then let x = " + twenty + " in let y = " + twenty + " in g(n - 1) else B ; "
            + "fun h n = if n then let x = A(2) in h(n - 1) else B ;";
        ReuseHouse house = with(text);
        due("2 times 49 times 40, 79 and 1 cells", house.plain(0, 20000, 49, 79, 0, 0), 1);
        due("a 4,001st", house.plain(0, 20000, 49, 80, 0, 0), 3);
        due("where", house.where(), text.indexOf("A(1)"));
        due("and one more", house.plain(0, 20000, 49, 81, 0, 0), 3);
        due("where", house.where(), text.indexOf("A(2)"));
        due("a run frees them", house.run(0, 20, 20000, 49, 80, 0, 0), 1);
    }

    private static void show() {
        now = "9 show";
        ReuseHouse house = with("fun f n = P(0 - n, Q, T(1, B(Q), 0)) ; fun g n = n ; fun h n = Abcdefgh(Q) ; "
            + "fun grow n = if n then let x = grow(n - 1) in V(x, x) else 1 ; "
            + "fun list n l = if n then list(n - 1, W(1000, l)) else l ; "
            + "fun long n = list(n, 1) ; ");
        house.run(0, 400, 99, 5, 0, 0, 0);
        due("value", shown(house, false), "P(-5,Q,T(1,B(Q),0))");
        due("value again", shown(house, false), "P(-5,Q,T(1,B(Q),0))");
        int[] numbers = {0, 9, 10, 1000000000, Integer.MAX_VALUE, -1, -10, Integer.MIN_VALUE};
        for (int number : numbers) {
            house.run(1, 0, 1, number, 0, 0, 0);
            due("int", shown(house, false), String.valueOf(number));
        }
        house.run(2, 1, 9, 0, 0, 0, 0);
        due("a long kind", shown(house, false), "Abcdefgh(Q)");
        due("too long", house.run(3, 400, 20000, 60, 0, 0, 0), 1);
        due("too long", house.show(false), -1);
        due("OUT stays", house.out(8), '(');
        due("its size stays", throwsAt(house, 11) ? 1 : 0, 1);
        due("cells of what is too long", house.release(), 60);
        house.run(3, 400, 20000, 9, 0, 0, 0);
        due("512 ones", house.show(false), 512 + 511 * 4);
        exactlyFull();
    }

    /** V-trees of depth 9 and 8 have 2,556 and 1,276 bytes, h(a) has 3 * a + 1. */
    private static void exactlyFull() {
        due("3,999 bytes", bytesOf(52, 1), 3999);
        due("4,000 bytes", bytesOf(52, 10), 4000);
        due("4,001 bytes", bytesOf(52, 100), -1);
        due("4,002 bytes", bytesOf(53, 1), -1);
    }

    private static int bytesOf(int a, int b) {
        ReuseHouse house = with("fun f a b = T(g(9), g(8), W(h(a), b)) ; "
            + "fun g n = if n then let x = g(n - 1) in V(x, x) else 1 ; fun h n = if n then I(h(n - 1)) else 1 ;");
        house.run(0, 400, 20000, a, b, 0, 0);
        return house.show(false);
    }

    private static void out() {
        now = "10 out";
        ReuseHouse house = with("fun f n = A(n) ;");
        house.run(0, 1, 9, 7, 0, 0, 0);
        due("OUT is empty ahead of show", throwsAt(house, 0) ? 1 : 0, 1);
        house.show(false);
        due("first", house.out(0), 'A');
        due("second", house.out(1), '(');
        due("last", house.out(3), ')');
        int[] others = {4, -1, 3999, 4000, Integer.MAX_VALUE, Integer.MIN_VALUE};
        for (int other : others) {
            due("out(" + other + ") throws", throwsAt(house, other) ? 1 : 0, 1);
        }
        take(house, "fun f n = n ;");
        due("OUT stays behind a program", house.out(0), 'A');
        house.run(0, 1, 9, 7, 0, 0, 0);
        house.show(false);
        due("a new OUT", house.out(0), '7');
        due("it is shorter", throwsAt(house, 1) ? 1 : 0, 1);
    }

    private static void release() {
        now = "11 release";
        ReuseHouse house = with("fun f n = let x = A(n) in P(x, x) ; fun g n = n ; " + LISTS);
        house.run(0, 400, 99, 1, 0, 0, 0);
        due("release", house.release(), 2);
        due("freed", house.count(3), 2);
        due("held", house.count(6), 0);
        due("again", house.release(), -1);
        due("no value", house.show(false), -1);
        due("counts stay", house.count(1), 2);
        house.run(1, 400, 99, 1, 0, 0, 0);
        due("an int", house.release(), 0);
        due("again", house.release(), -1);
        house.run(2, 400, 20000, 99, 0, 0, 0);
        due("a long list", house.release(), 99);
        house.run(1, 400, 0, 1, 0, 0, 0);
        due("behind one that has not ended", house.release(), -1);
        house.plain(0, 99, 1, 0, 0, 0);
        due("the other is not released", house.release(), -1);
    }

    private static void count() {
        now = "12 count";
        ReuseHouse house = with(LISTS);
        house.run(2, 400, 3000, 3, 0, 0, 0);
        int[] counts = {59, 3, 3, 0, 3, 0, 3, 5};
        for (int what = 0; what < 8; what++) {
            due("count(" + what + ")", house.count(what), counts[what]);
        }
        due("count(8)", house.count(8), -1);
        due("count(-1)", house.count(-1), -1);
        due("count of the greatest", house.count(Integer.MAX_VALUE), -1);
        house.run(2, 400, 0, 3, 0, 0, 0);
        int[] none = {0, 0, 0, 0, 0, 0, 0, 1};
        for (int what = 0; what < 8; what++) {
            due("cut at once: count(" + what + ")", house.count(what), none[what]);
        }
        house.run(2, 400, 20, 3, 0, 0, 0);
        due("held behind one that has not ended", house.count(6), 0);
        due("refused", house.run(2, 400, -1, 3, 0, 0, 0), -1);
        due("nothing changes", house.count(0), 20);
    }

    /** Calls in any order with any numbers: nothing but out() throws, and no answer is below NONE. */
    private static void anyCalls() {
        now = "any calls";
        int[] numbers = {Integer.MIN_VALUE, -2, -1, 0, 1, 2, 3, 5, 20, 60, 400, 401, 2000, 20000, 20001, Integer.MAX_VALUE};
        String[] texts = {LISTS, "fun f a = let b = A(a) in P(b, b) ;", "fun f a b = f(b, a) ;", "fun f = 1 + A ;", "?"};
        for (int seed = 0; seed < 300; seed++) {
            Random random = new Random(seed);
            ReuseHouse house = new ReuseHouse();
            for (int i = 0; i < 200; i++) {
                int[] n = new int[7];
                for (int k = 0; k < n.length; k++) {
                    n[k] = numbers[random.nextInt(numbers.length)];
                }
                try {
                    int answer = anyCall(house, random, n, texts);
                    due("an answer is NONE or more", answer >= ReuseHouse.NONE ? 1 : 0, 1);
                } catch (RuntimeException thrown) {
                    due("call " + i + " of seed " + seed + " threw " + thrown, 1, 0);
                }
            }
        }
    }

    private static int anyCall(ReuseHouse house, Random random, int[] n, String[] texts) {
        switch (random.nextInt(13)) {
            case 0: return house.feed(n[0], n[1], n[2], n[3], n[4]);
            case 1: return house.program(n[0]);
            case 2: return house.fault();
            case 3: return house.where();
            case 4: return house.about(n[0], n[1]);
            case 5: return house.run(n[0], n[1], n[2], n[3], n[4], n[5], n[6]);
            case 6: return house.plain(n[0], n[1], n[2], n[3], n[4], n[5]);
            case 7: return house.show(random.nextBoolean());
            case 8: return throwsAt(house, n[0]) ? 0 : house.out(n[0]);
            case 9: return house.release();
            case 10: return house.count(n[0]);
            case 11: return house.run(random.nextInt(3), random.nextInt(10), 20000, n[0], n[1], n[2], n[3]);
            default:
                house.program(0);
                return take(house, texts[random.nextInt(texts.length)]);
        }
    }
}
