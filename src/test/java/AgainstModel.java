import java.util.ArrayList;
import java.util.HashMap;
import java.util.HashSet;
import java.util.LinkedHashMap;
import java.util.List;
import java.util.Map;
import java.util.Random;
import java.util.Set;
import java.util.regex.Pattern;

/**
 * Made-up programs, whole and spoiled, are given to ReuseHouse and to a model that is written in
 * another way: a tree, names that are objects, and needs that are reckoned anew at every place.
 */
public final class AgainstModel {
    private static int wrong = 0;
    private static final int[] ended = new int[6];
    private static final int[] faults = new int[6];
    private static int reused = 0;
    private static int doubled = 0;
    private static int shellsFreed = 0;

    public static void main(String[] args) throws InterruptedException {
        Thread worker = new Thread(null, AgainstModel::compareAll, "model", 1L << 29);
        worker.start();
        worker.join();
        System.out.println("ended " + java.util.Arrays.toString(ended) + ", faults " + java.util.Arrays.toString(faults)
            + ", reused " + reused + ", doubled " + doubled + ", shells left " + shellsFreed);
        for (int i = 1; i <= 5; i++) {
            due("runs that ended by " + i, "", ended[i] > 0 ? 1 : 0, 1);
            due("programs with fault " + i, "", faults[i] > 0 ? 1 : 0, 1);
        }
        due("cells reused, doubled, shells left", "", reused > 0 && doubled > 0 && shellsFreed > 0 ? 1 : 0, 1);
        System.out.println(wrong == 0 ? "all answers are the model's" : wrong + " answers are not the model's");
        if (wrong != 0) {
            System.exit(1);
        }
    }

    private static void due(String what, String text, long got, long want) {
        if (got != want) {
            wrong++;
            if (wrong < 20) {
                System.out.println(what + " answered " + got + ", due is " + want + " for: "
                    + text.substring(0, Math.min(300, text.length())));
            }
        }
    }

    /** Programs near the bounds: values that wait, names, shells and signs of many open calls. */
    private static List<String> hardPrograms() {
        String waiting = "g(1,1,1,1,1,1<1+1*";
        StringBuilder nested = new StringBuilder("fun f n = let l = L(n, L(n, L(n, L(n, L(n, E))))) in ");
        StringBuilder ends = new StringBuilder();
        String list = "l";
        for (char c = 'a'; c < 'i'; c++) {
            nested.append("match ").append(list).append(" { L(x").append(c).append(", y").append(c).append(") -> ");
            list = "y" + c;
            ends.append(" | _ -> if n then L(n, f(n - 1)) else E }");
        }
        return List.of(
            "fun f n = if n then " + waiting.repeat(13) + "f(n - 1)" + ")".repeat(13)
                + " else 1 ; fun g a b c d e h = h ;",
            "fun f n=" + waiting.repeat(28) + "f(n-1)" + ")".repeat(28) + ";fun g a b c d e h=h;",
            "fun f n=g(n)" + "+1".repeat(988) + ";fun g n=1;",
            "fun f n=" + "1+(".repeat(28) + "f(n)" + ")".repeat(28) + ";",
            nested + "1" + ends + " ;",
            nested + "L(xa, xb)" + ends + " ;",
            "fun f n = let l = A(n, n) in match l { A(a, b) -> let m = B(a, b) in match m { B(c, d) -> "
                + "if n then A(f(n - 1), A(c, d)) else C(c) } } ;");
    }

    private static void compareHard() {
        for (String text : hardPrograms()) {
            for (int seed = 0; seed < 20; seed++) {
                ReuseHouse house = new ReuseHouse();
                compareProgram(house, text);
                due("a hard program is taken", text, house.fault(), 0);
                compareRuns(text, new Random(seed));
            }
        }
    }

    private static void compareAll() {
        try {
            compareHard();
            for (int seed = 0; seed < 3000; seed++) {
                Random random = new Random(seed);
                String text = new Maker(random).program();
                compareProgram(new ReuseHouse(), text);
                compareRuns(text, random);
                ReuseHouse house = new ReuseHouse();
                for (int i = 0; i < 6; i++) {
                    house = i % 3 == 0 ? new ReuseHouse() : house;
                    compareProgram(house, spoiled(text, random));
                }
            }
        } catch (RuntimeException thrown) {
            thrown.printStackTrace(System.out);
            wrong++;
        }
    }

    private static String spoiled(String text, Random random) {
        StringBuilder bytes = new StringBuilder(text);
        String signs = "abfxyzABCNP019(),=+-*<{}|;_> \n";
        for (int i = 0; i <= random.nextInt(3); i++) {
            int at = random.nextInt(bytes.length());
            int kind = random.nextInt(5);
            if (kind == 0) {
                bytes.deleteCharAt(at);
            } else if (kind == 1) {
                bytes.insert(at, signs.charAt(random.nextInt(signs.length())));
            } else if (kind == 2) {
                bytes.setCharAt(at, signs.charAt(random.nextInt(signs.length())));
            } else {
                swapTokens(bytes, random);
            }
        }
        return bytes.length() > 2000 ? bytes.substring(0, 2000) : bytes.toString();
    }

    private static void swapTokens(StringBuilder bytes, Random random) {
        String[] words = bytes.toString().split(" ");
        int i = random.nextInt(words.length);
        words[i] = words[random.nextInt(words.length)];
        bytes.setLength(0);
        bytes.append(String.join(" ", words));
    }

    private static void give(ReuseHouse house, String text) {
        for (int i = 0; i < text.length(); i += 20) {
            int[] four = new int[5];
            for (int k = 0; k < 20; k++) {
                int sign = i + k < text.length() ? text.charAt(i + k) : ' ';
                four[k / 4] = four[k / 4] << 8 | sign;
            }
            house.feed(four[0], four[1], four[2], four[3], four[4]);
        }
    }

    private static void compareProgram(ReuseHouse house, String text) {
        give(house, text);
        int got = house.program(text.length());
        Reader reader = new Reader(text);
        reader.readAll();
        faults[reader.fault]++;
        due("fault", text, house.fault(), reader.fault);
        due("where", text, house.where(), reader.place);
        due("program", text, got, reader.fault == 0 ? reader.functions.size() : -1);
        if (reader.fault == 0) {
            compareAbout(house, reader, text);
        }
    }

    private static void compareAbout(ReuseHouse house, Reader reader, String text) {
        int f = 0;
        for (Function function : reader.functions.values()) {
            int[] facts = function.facts();
            for (int what = 0; what < 5; what++) {
                due("about(" + f + ", " + what + ")", text, house.about(f, what), facts[what]);
            }
            f++;
        }
    }

    /** An object is used for two rounds of one function: the document promises 512 calls and no more. */
    private static void compareRuns(String text, Random random) {
        Reader reader = new Reader(text);
        reader.readAll();
        if (reader.fault != 0) {
            return;
        }
        for (int f = 0; f < reader.functions.size(); f++) {
            ReuseHouse house = new ReuseHouse();
            give(house, text);
            due("program", text, house.program(text.length()), reader.functions.size());
            compareRun(house, reader, f, text, random);
            compareRun(house, reader, f, text, random);
        }
    }

    private static void compareRun(ReuseHouse house, Reader reader, int f, String text, Random random) {
        Function function = new ArrayList<>(reader.functions.values()).get(f);
        int cells = random.nextInt(4) == 0 ? random.nextInt(12) : 400;
        int steps = random.nextInt(4) == 0 ? random.nextInt(200) : 20000;
        int a = random.nextInt(8) == 0 ? 99 : random.nextInt(12);
        Model model = new Model(reader.functions, true, cells, steps);
        int want = model.begin(function, a, 2, -3, 1);
        String which = "function " + f + " with " + cells + " cells, " + steps + " steps, " + a + ": ";
        due(which + "run", text, house.run(f, cells, steps, a, 2, -3, 1), want);
        ended[want]++;
        due(which + "where", text, house.where(), model.place);
        compareCounts(house, model, which, text);
        compareShown(house, false, model, which + "show", text);
        compareRelease(house, model, which, text);
        Model plainly = new Model(reader.functions, false, 4000, steps);
        int plain = plainly.begin(function, a, 2, -3, 1);
        due(which + "plain", text, house.plain(f, steps, a, 2, -3, 1), plain);
        due(which + "plain where", text, house.where(), plainly.place);
        compareShown(house, true, plainly, which + "plain show", text);
        compareCounts(house, model, which + "behind plain", text);
        if (want == 1 && plain == 1) {
            due(which + "the values", text, model.shown().equals(plainly.shown()) ? 1 : 0, 1);
        }
    }

    private static void compareCounts(ReuseHouse house, Model model, String which, String text) {
        int[] counts = {model.steps, model.made, model.reused, model.freed, model.most, model.doubled,
            model.result == null ? 0 : model.held, model.mostOpen};
        for (int what = 0; what < 8; what++) {
            due(which + "count(" + what + ")", text, house.count(what), counts[what]);
        }
        reused += model.reused;
        doubled += model.doubled;
        shellsFreed += model.shellsLeft;
    }

    private static void compareShown(ReuseHouse house, boolean other, Model model, String which, String text) {
        String shown = model.result == null ? null : model.shown();
        if (shown == null || shown.length() > 4000) {
            due(which, text, house.show(other), -1);
            return;
        }
        due(which, text, house.show(other), shown.length());
        for (int i = 0; i < shown.length(); i++) {
            if (i < 60 || i >= shown.length() - 10) {
                due(which + " out(" + i + ")", text, house.out(i), shown.charAt(i));
            }
        }
    }

    private static void compareRelease(ReuseHouse house, Model model, String which, String text) {
        if (model.result == null) {
            due(which + "release", text, house.release(), -1);
            return;
        }
        int before = model.freed;
        model.drop(model.result);
        due(which + "release", text, house.release(), model.freed - before);
        due(which + "held behind release", text, house.count(6), 0);
        due(which + "made and freed", text, house.count(1), house.count(3));
    }

    /** Makes up programs over ints, lists, trees and pairs, now and then with a wrong value. */
    private static final class Maker {
        private static final int INT = 0;
        private static final int LIST = 1;
        private static final int TREE = 2;
        private static final int PAIR = 3;
        private final Random random;
        private final List<int[]> signatures = new ArrayList<>();
        private final StringBuilder text = new StringBuilder();
        private List<String> names = new ArrayList<>();
        private List<Integer> types = new ArrayList<>();
        private int fresh;

        Maker(Random random) {
            this.random = random;
        }

        String program() {
            for (int tries = 0; tries < 50; tries++) {
                text.setLength(0);
                signatures.clear();
                int count = 1 + random.nextInt(6);
                for (int f = 0; f < count; f++) {
                    int[] signature = new int[1 + random.nextInt(5)];
                    boolean givenInts = random.nextBoolean();
                    for (int i = 0; i < signature.length; i++) {
                        signature[i] = i > 0 && givenInts ? INT : random.nextInt(4);
                    }
                    signatures.add(signature);
                }
                for (int f = 0; f < count; f++) {
                    function(f);
                }
                if (text.length() <= 2000) {
                    return text.toString();
                }
            }
            return "fun f a = a ;";
        }

        private void function(int f) {
            names = new ArrayList<>();
            types = new ArrayList<>();
            fresh = 0;
            text.append("fun ").append((char) ('f' + f));
            int[] signature = signatures.get(f);
            for (int i = 1; i < signature.length; i++) {
                text.append(' ').append(tell(signature[i]));
            }
            text.append(" = ");
            expression(signature[0], 5);
            text.append(" ; ");
        }

        private String tell(int type) {
            String name = "x" + (char) ('a' + fresh % 26) + (char) ('a' + fresh / 26);
            fresh++;
            names.add(name);
            types.add(type);
            return name;
        }

        private void forget(int size) {
            while (names.size() > size) {
                names.remove(names.size() - 1);
                types.remove(types.size() - 1);
            }
        }

        private void expression(int type, int depth) {
            int wanted = random.nextInt(150) == 0 ? random.nextInt(4) : type;
            int choice = random.nextInt(10);
            if (depth <= 0 || choice < 2) {
                simple(wanted, depth);
            } else if (choice == 2) {
                let(wanted, depth);
            } else if (choice == 3) {
                choice(wanted, depth);
            } else if (choice < 8 && !named(-1).isEmpty()) {
                match(wanted, depth);
            } else {
                simple(wanted, depth);
            }
        }

        private List<Integer> named(int type) {
            List<Integer> found = new ArrayList<>();
            for (int i = 0; i < names.size(); i++) {
                if (type == -1 ? types.get(i) != INT : types.get(i) == type) {
                    found.add(i);
                }
            }
            return found;
        }

        private void let(int type, int depth) {
            int size = names.size();
            int of = random.nextInt(4);
            int place = fresh;
            text.append("let x").append((char) ('a' + place % 26)).append((char) ('a' + place / 26)).append(" = ");
            fresh++;
            expression(of, depth - 1);
            text.append(" in ");
            int later = fresh;
            fresh = place;
            tell(of);
            fresh = later;
            expression(type, depth - 1);
            forget(size);
        }

        private void choice(int type, int depth) {
            text.append("if ");
            expression(INT, depth - 2);
            text.append(" then ");
            expression(type, depth - 1);
            text.append(" else ");
            expression(type, depth - 1);
        }

        private void match(int type, int depth) {
            List<Integer> found = named(-1);
            int at = found.get(random.nextInt(found.size()));
            int of = types.get(at);
            text.append("match ").append(names.get(at)).append(" { ");
            String[] kinds = of == LIST ? new String[] {"Nil", "Cons"} : of == TREE ? new String[] {"Leaf", "Node", "One"}
                : new String[] {"Pair"};
            int left = random.nextInt(4) == 0 ? random.nextInt(kinds.length) : kinds.length;
            for (int i = 0; i < left; i++) {
                text.append(i == 0 ? "" : " | ");
                arm(kinds[i], type, depth);
            }
            if (left < kinds.length) {
                text.append(left == 0 ? "" : " | ").append("_ -> ");
                expression(type, depth - 1);
            }
            text.append(" }");
        }

        private void arm(String kind, int type, int depth) {
            int size = names.size();
            text.append(kind);
            int[] fields = fieldsOf(kind);
            for (int i = 0; i < fields.length; i++) {
                text.append(i == 0 ? "(" : ", ").append(tell(fields[i]));
            }
            text.append(fields.length > 0 ? ") -> " : " -> ");
            expression(type, depth - 1);
            forget(size);
        }

        private int[] fieldsOf(String kind) {
            switch (kind) {
                case "Cons": return new int[] {INT, LIST};
                case "Node": return new int[] {TREE, INT, TREE};
                case "One": return new int[] {INT};
                case "Pair": return new int[] {LIST, TREE};
                default: return new int[0];
            }
        }

        private void simple(int type, int depth) {
            List<Integer> found = named(type);
            int choice = random.nextInt(10);
            if (!found.isEmpty() && (choice < 4 || depth <= -2)) {
                text.append(names.get(found.get(random.nextInt(found.size()))));
            } else if (choice < 7 && depth > 0 && call(type, depth)) {
                return;
            } else if (type == INT) {
                number(depth);
            } else if (depth <= 0) {
                text.append(type == LIST ? "Nil" : type == TREE ? "Leaf" : "Pair(Nil, Leaf)");
            } else {
                build(type == LIST ? "Cons" : type == PAIR ? "Pair" : random.nextBoolean() ? "Node" : "One", depth);
            }
        }

        private void number(int depth) {
            if (depth <= 0 || random.nextInt(3) == 0) {
                text.append(random.nextInt(4));
                return;
            }
            text.append("(");
            expression(INT, depth - 1);
            text.append(") ").append("+-*<".charAt(random.nextInt(4))).append(" (");
            expression(INT, depth - 1);
            text.append(")");
            if (random.nextInt(3) == 0) {
                text.append(" + ").append(random.nextInt(9)).append(" * 2 - 1");
            }
        }

        private boolean call(int type, int depth) {
            for (int tries = 0; tries < 4; tries++) {
                int f = random.nextInt(signatures.size());
                int[] signature = signatures.get(f);
                if (signature[0] == type) {
                    text.append((char) ('f' + f));
                    for (int i = 1; i < signature.length; i++) {
                        text.append(i == 1 ? "(" : ", ");
                        expression(signature[i], depth - 2);
                    }
                    text.append(signature.length > 1 ? ")" : "");
                    return true;
                }
            }
            return false;
        }

        private void build(String kind, int depth) {
            int[] fields = fieldsOf(kind);
            text.append(kind);
            for (int i = 0; i < fields.length; i++) {
                text.append(i == 0 ? "(" : ", ");
                expression(fields[i], depth - 1);
            }
            text.append(")");
        }
    }

    private static final class Name {
        final String text;

        Name(String text) {
            this.text = text;
        }
    }

    private static final class Function {
        String text;
        List<Name> told = new ArrayList<>();
        Node body;
        int names;
        int kinds;
        int matches;

        int[] facts() {
            return new int[] {told.size(), names, kinds, matches, shells(body, new HashSet<>())};
        }

        private static int shells(Node node, Set<Name> behind) {
            int found = 0;
            for (Way way : node.ways(behind)) {
                found += shells(way.node, way.behind);
            }
            for (Arm arm : node.arms) {
                boolean gone = !behind.contains(node.name) && !arm.body.uses().contains(node.name);
                if (gone && !arm.names.isEmpty() && arm.body.builds(arm.names.size())) {
                    found++;
                }
            }
            return found;
        }
    }

    private static final class Way {
        final Node node;
        final Set<Name> behind;

        Way(Node node, Set<Name> behind) {
            this.node = node;
            this.behind = behind;
        }
    }

    private static final class Arm {
        String kind;
        List<Name> names = new ArrayList<>();
        Node body;
    }

    /** what: number, name, call, kind, let, if, match or a sign. */
    private static final class Node {
        final String what;
        final int place;
        int number;
        String text;
        Name name;
        List<Node> parts = new ArrayList<>();
        List<Arm> arms = new ArrayList<>();
        private Set<Name> used;

        Node(String what, int place) {
            this.what = what;
            this.place = place;
        }

        Set<Name> uses() {
            if (used == null) {
                used = new HashSet<>();
                if (name != null && !what.equals("let")) {
                    used.add(name);
                }
                for (Node part : parts) {
                    used.addAll(part.uses());
                }
                for (Arm arm : arms) {
                    used.addAll(arm.body.uses());
                }
            }
            return used;
        }

        boolean builds(int fields) {
            boolean found = what.equals("kind") && parts.size() == fields;
            for (Node part : parts) {
                found |= part.builds(fields);
            }
            for (Arm arm : arms) {
                found |= arm.body.builds(fields);
            }
            return found;
        }

        /** The parts with what is needed behind each of them. */
        List<Way> ways(Set<Name> behind) {
            List<Way> found = new ArrayList<>();
            for (int i = 0; i < parts.size(); i++) {
                Set<Name> rest = new HashSet<>(behind);
                boolean isWay = what.equals("if") && i > 0;
                for (int k = i + 1; k < parts.size() && !isWay; k++) {
                    rest.addAll(parts.get(k).uses());
                }
                found.add(new Way(parts.get(i), rest));
            }
            for (Arm arm : arms) {
                found.add(new Way(arm.body, behind));
            }
            return found;
        }
    }

    private static final class Fault extends RuntimeException {
        private static final long serialVersionUID = 1L;
        final int number;
        final int place;

        Fault(int number, int place) {
            super(null, null, false, false);
            this.number = number;
            this.place = place;
        }
    }

    /** Reads a text with one token ahead that is cut out of it when it is asked for. */
    private static final class Reader {
        private static final Pattern TOKEN =
            Pattern.compile("[a-z]{1,8}|[A-Z][a-z]{0,7}|[0-9]{1,9}|[(),=+*<{}|;_-]");
        private static final Set<String> WORDS = Set.of("let", "in", "if", "then", "else", "match", "fun");
        final Map<String, Function> functions = new LinkedHashMap<>();
        int fault;
        int place = -1;
        private final Map<String, Integer> kinds = new LinkedHashMap<>();
        private final List<Name> scope = new ArrayList<>();
        private final List<Node> calls = new ArrayList<>();
        private final String text;
        private Function function;
        private int at;
        private int peekedAt = -1;
        private String peeked;

        Reader(String text) {
            this.text = text;
        }

        void readAll() {
            try {
                do {
                    define();
                } while (peek().equals("fun"));
                if (!peek().isEmpty()) {
                    throw new Fault(1, at);
                }
                checkCalls();
            } catch (Fault met) {
                fault = met.number;
                place = met.place;
            }
        }

        private void checkCalls() {
            calls.sort((one, two) -> Integer.compare(one.place, two.place));
            for (Node call : calls) {
                Function called = functions.get(call.text);
                if (called == null) {
                    throw new Fault(2, call.place);
                }
                if (called.told.size() != call.parts.size()) {
                    throw new Fault(4, call.place);
                }
            }
        }

        /** The token at hand, at its place; empty at the end, "?" if it is none. */
        private String peek() {
            while (at < text.length() && (text.charAt(at) == ' ' || text.charAt(at) == '\n')) {
                at++;
            }
            if (at != peekedAt) {
                peekedAt = at;
                peeked = at == text.length() ? "" : cut();
            }
            return peeked;
        }

        private String cut() {
            int to = at;
            while (to < text.length() && Character.isLetterOrDigit(text.charAt(to))) {
                to++;
            }
            String token = text.substring(at, Math.max(to, at + 1));
            if (text.startsWith("->", at)) {
                return "->";
            }
            return TOKEN.matcher(token).matches() ? token : "?";
        }

        private boolean isName() {
            return !peek().isEmpty() && Character.isLowerCase(peek().charAt(0)) && !WORDS.contains(peek());
        }

        private boolean isKind() {
            return !peek().isEmpty() && Character.isUpperCase(peek().charAt(0));
        }

        private String take() {
            String token = peek();
            at += token.length();
            return token;
        }

        private void want(String token) {
            if (!peek().equals(token)) {
                throw new Fault(1, at);
            }
            take();
        }

        private void form(boolean fits) {
            peek();
            if (!fits) {
                throw new Fault(1, at);
            }
        }

        private void define() {
            form(peek().equals("fun"));
            if (functions.size() == 30) {
                throw new Fault(5, at);
            }
            take();
            form(isName());
            if (functions.containsKey(peek())) {
                throw new Fault(3, at);
            }
            function = new Function();
            functions.put(peek(), function);
            function.text = take();
            scope.clear();
            while (isName()) {
                function.told.add(tellHere(function.told.size() == 6));
            }
            want("=");
            function.body = expression(1);
            want(";");
        }

        private Name around(String name) {
            for (Name known : scope) {
                if (known.text.equals(name)) {
                    return known;
                }
            }
            return null;
        }

        private Name checkHere(boolean many) {
            form(isName());
            if (around(peek()) != null) {
                throw new Fault(3, at);
            }
            if (many || scope.size() == 24) {
                throw new Fault(5, at);
            }
            return new Name(take());
        }

        private void add(Name name) {
            scope.add(name);
            function.names = Math.max(function.names, scope.size());
        }

        private Name tellHere(boolean many) {
            Name name = checkHere(many);
            add(name);
            return name;
        }

        /** Where one too many begins: a kind alone that is wrong besides has the lesser fault. */
        private void many() {
            int start = at;
            if (isKind()) {
                String kind = take();
                boolean alone = !peek().equals("(");
                if (alone && kinds.getOrDefault(kind, 0) > 0) {
                    throw new Fault(4, start);
                }
            }
            throw new Fault(5, start);
        }

        private void kindHere() {
            if (!kinds.containsKey(peek())) {
                if (kinds.size() == 20) {
                    throw new Fault(5, at);
                }
                kinds.put(peek(), -1);
            }
        }

        private void toldToEnd(String kind, int fields, int start) {
            if (kinds.get(kind) == -1) {
                kinds.put(kind, fields);
            } else if (kinds.get(kind) != fields) {
                throw new Fault(4, start);
            }
        }

        private boolean begins() {
            return isName() || isKind() || peek().matches("[0-9]+|let|if|match|[(]");
        }

        private Node expression(int depth) {
            form(begins());
            if (depth == 31) {
                many();
            }
            int start = at;
            switch (peek()) {
                case "let":
                    return let(start, depth);
                case "if":
                    return choice(start, depth);
                case "match":
                    return match(start, depth);
                default:
                    return comparison(depth);
            }
        }

        private Node let(int start, int depth) {
            take();
            Node node = new Node("let", start);
            node.name = checkHere(false);
            want("=");
            node.parts.add(expression(depth + 1));
            want("in");
            add(node.name);
            node.parts.add(expression(depth + 1));
            scope.remove(node.name);
            return node;
        }

        private Node choice(int start, int depth) {
            Node node = new Node("if", start);
            for (String word : new String[] {"if", "then", "else"}) {
                want(word);
                node.parts.add(expression(depth + 1));
            }
            return node;
        }

        private Node match(int start, int depth) {
            take();
            function.matches++;
            Node node = new Node("match", start);
            form(isName());
            node.name = around(peek());
            if (node.name == null) {
                throw new Fault(2, at);
            }
            take();
            want("{");
            Set<String> told = new HashSet<>();
            String last;
            do {
                form(peek().equals("_") || isKind());
                if (!told.add(peek())) {
                    throw new Fault(3, at);
                }
                if (node.arms.size() == 8) {
                    many();
                }
                last = peek();
                arm(node, depth);
            } while (!last.equals("_") && peek().equals("|") && take() != null);
            want("}");
            return node;
        }

        private void arm(Node match, int depth) {
            Arm arm = new Arm();
            match.arms.add(arm);
            int size = scope.size();
            if (peek().equals("_")) {
                take();
            } else {
                kindHere();
                int start = at;
                arm.kind = take();
                if (peek().equals("(")) {
                    do {
                        take();
                        arm.names.add(tellHere(arm.names.size() == 3));
                    } while (peek().equals(","));
                    want(")");
                }
                toldToEnd(arm.kind, arm.names.size(), start);
            }
            want("->");
            arm.body = expression(depth + 1);
            scope.subList(size, scope.size()).clear();
        }

        private Node sign(Node left, Node right, String sign, int place) {
            Node node = new Node(sign, place);
            node.parts.add(left);
            node.parts.add(right);
            return node;
        }

        private Node comparison(int depth) {
            Node left = sum(depth);
            if (peek().equals("<")) {
                int place = at;
                take();
                return sign(left, sum(depth), "<", place);
            }
            return left;
        }

        private Node sum(int depth) {
            Node left = part(depth);
            while (peek().equals("+") || peek().equals("-")) {
                int place = at;
                String sign = take();
                left = sign(left, part(depth), sign, place);
            }
            return left;
        }

        private Node part(int depth) {
            Node left = atom(depth);
            while (peek().equals("*")) {
                int place = at;
                take();
                left = sign(left, atom(depth), "*", place);
            }
            return left;
        }

        private Node atom(int depth) {
            form(begins() && !peek().matches("let|if|match"));
            int start = at;
            if (peek().equals("(")) {
                take();
                Node inner = expression(depth + 1);
                want(")");
                return inner;
            }
            if (isName()) {
                return nameAtom(start, depth);
            }
            if (isKind()) {
                kindHere();
                Node node = new Node("kind", start);
                node.text = take();
                arguments(node, depth, 3);
                function.kinds += node.parts.isEmpty() ? 0 : 1;
                toldToEnd(node.text, node.parts.size(), start);
                return node;
            }
            Node node = new Node("number", start);
            node.number = Integer.parseInt(take());
            return node;
        }

        private Node nameAtom(int start, int depth) {
            String text = take();
            if (!peek().equals("(") && around(text) != null) {
                Node node = new Node("name", start);
                node.name = around(text);
                return node;
            }
            Node node = new Node("call", start);
            node.text = text;
            calls.add(node);
            arguments(node, depth, 5000);
            return node;
        }

        private void arguments(Node node, int depth, int most) {
            if (!peek().equals("(")) {
                return;
            }
            do {
                take();
                form(begins());
                if (node.parts.size() == most) {
                    many();
                }
                node.parts.add(expression(depth + 1));
            } while (peek().equals(","));
            want(")");
        }
    }

    /** An int, or a kind with its fields; only a kind with fields has a count that matters. */
    private static final class Value {
        int number;
        String kind;
        List<Value> fields = new ArrayList<>();
        int count = 1;

        boolean isCell() {
            return !fields.isEmpty();
        }
    }

    private static final class Stop extends RuntimeException {
        private static final long serialVersionUID = 1L;
        final int how;
        final int place;

        Stop(int how, int place) {
            super(null, null, false, false);
            this.how = how;
            this.place = place;
        }
    }

    private static final class Model {
        private final Map<String, Function> functions;
        private final boolean counted;
        private final int limit;
        private final int allowed;
        int steps;
        int made;
        int reused;
        int freed;
        int most;
        int doubled;
        int held;
        int open;
        int mostOpen;
        int place = -1;
        int shellsLeft;
        Value result;

        Model(Map<String, Function> functions, boolean counted, int limit, int allowed) {
            this.functions = functions;
            this.counted = counted;
            this.limit = limit;
            this.allowed = allowed;
        }

        int begin(Function function, int... numbers) {
            List<Value> values = new ArrayList<>();
            for (int i = 0; i < function.told.size(); i++) {
                values.add(number(i < 4 ? numbers[i] : 0));
            }
            try {
                result = call(function, values);
                return 1;
            } catch (Stop stop) {
                place = stop.place;
                return stop.how;
            }
        }

        String shown() {
            StringBuilder text = new StringBuilder();
            write(result, text);
            return text.toString();
        }

        private void write(Value value, StringBuilder text) {
            if (text.length() > 4000) {
                return;
            }
            text.append(value.kind == null ? String.valueOf(value.number) : value.kind);
            for (int i = 0; i < value.fields.size(); i++) {
                text.append(i == 0 ? "(" : ",");
                write(value.fields.get(i), text);
            }
            text.append(value.isCell() ? ")" : "");
        }

        private static Value number(int number) {
            Value value = new Value();
            value.number = number;
            return value;
        }

        private Value copy(Value value) {
            if (counted && value.isCell()) {
                value.count++;
                doubled++;
            }
            return value;
        }

        void drop(Value value) {
            if (!counted || !value.isCell()) {
                return;
            }
            value.count--;
            if (value.count == 0) {
                value.fields.forEach(this::drop);
                free();
            }
        }

        private void free() {
            freed++;
            held--;
        }

        private Value call(Function function, List<Value> values) {
            open++;
            mostOpen = Math.max(mostOpen, open);
            Map<Name, Value> names = new LinkedHashMap<>();
            for (int i = 0; i < values.size(); i++) {
                names.put(function.told.get(i), values.get(i));
            }
            begin(names, function.body, Set.of());
            Value value = new Call(names).work(function.body, Set.of());
            open--;
            return value;
        }

        private void begin(Map<Name, Value> names, Node way, Set<Name> behind) {
            for (Name name : new ArrayList<>(names.keySet())) {
                if (counted && !way.uses().contains(name) && !behind.contains(name)) {
                    drop(names.remove(name));
                }
            }
        }

        /** A call that is open: its names with their values, its shells. */
        private final class Call {
            private final Map<Name, Value> names;
            private final List<Object[]> shells = new ArrayList<>();

            Call(Map<Name, Value> names) {
                this.names = names;
            }

            Value work(Node node, Set<Name> behind) {
                if (steps == allowed) {
                    throw new Stop(5, node.place);
                }
                steps++;
                switch (node.what) {
                    case "number":
                        return number(node.number);
                    case "name":
                        return use(node.name, behind);
                    case "let":
                        return let(node, behind);
                    case "if":
                        return choose(node, behind);
                    case "match":
                        return match(node, behind);
                    default:
                        return withOperands(node, operands(node, behind));
                }
            }

            private List<Value> operands(Node node, Set<Name> behind) {
                List<Value> values = new ArrayList<>();
                for (Way way : node.ways(behind)) {
                    values.add(work(way.node, way.behind));
                }
                return values;
            }

            private Value withOperands(Node node, List<Value> values) {
                if (node.what.equals("call")) {
                    if (open == 100) {
                        throw new Stop(4, node.place);
                    }
                    return Model.this.call(functions.get(node.text), values);
                }
                if (node.what.equals("kind")) {
                    return build(node, values);
                }
                if (values.get(0).kind != null || values.get(1).kind != null) {
                    throw new Stop(2, node.place);
                }
                int a = values.get(0).number;
                int b = values.get(1).number;
                return number(node.what.equals("+") ? a + b : node.what.equals("-") ? a - b
                    : node.what.equals("*") ? a * b : a < b ? 1 : 0);
            }

            private Value use(Name name, Set<Name> behind) {
                if (!counted) {
                    return names.get(name);
                }
                return behind.contains(name) ? copy(names.get(name)) : names.remove(name);
            }

            private Value let(Node node, Set<Name> behind) {
                Set<Name> rest = new HashSet<>(behind);
                rest.addAll(node.parts.get(1).uses());
                Value value = work(node.parts.get(0), rest);
                if (node.parts.get(1).uses().contains(node.name)) {
                    names.put(node.name, value);
                } else {
                    drop(value);
                }
                return work(node.parts.get(1), behind);
            }

            private Value choose(Node node, Set<Name> behind) {
                Set<Name> rest = new HashSet<>(behind);
                rest.addAll(node.parts.get(1).uses());
                rest.addAll(node.parts.get(2).uses());
                Value value = work(node.parts.get(0), rest);
                if (value.kind != null) {
                    throw new Stop(2, node.place);
                }
                Node way = node.parts.get(value.number == 0 ? 2 : 1);
                begin(names, way, behind);
                return work(way, behind);
            }

            private Value match(Node node, Set<Name> behind) {
                Value value = names.get(node.name);
                for (Arm arm : node.arms) {
                    if (arm.kind == null || arm.kind.equals(value.kind)) {
                        return workArm(node.name, arm, value, behind);
                    }
                }
                throw new Stop(2, node.place);
            }

            private Value workArm(Name name, Arm arm, Value value, Set<Name> behind) {
                boolean gone = !behind.contains(name) && !arm.body.uses().contains(name);
                if (!counted) {
                    takeFields(arm, value, false, false);
                    return work(arm.body, behind);
                }
                Object[] shell = null;
                if (gone) {
                    names.remove(name);
                }
                if (arm.kind == null && gone) {
                    drop(value);
                } else if (arm.kind != null && value.isCell()) {
                    boolean alone = gone && value.count == 1;
                    takeFields(arm, value, !alone, alone);
                    if (alone && arm.body.builds(arm.names.size())) {
                        shell = new Object[] {arm.names.size()};
                        shells.add(shell);
                    } else if (alone) {
                        free();
                    } else if (gone) {
                        value.count--;
                    }
                }
                begin(names, arm.body, behind);
                Value result = work(arm.body, behind);
                if (shell != null && shells.remove(shell)) {
                    shellsLeft++;
                    free();
                }
                return result;
            }

            private void takeFields(Arm arm, Value value, boolean doubling, boolean dropping) {
                for (int i = 0; i < arm.names.size(); i++) {
                    if (arm.body.uses().contains(arm.names.get(i))) {
                        names.put(arm.names.get(i), doubling ? copy(value.fields.get(i)) : value.fields.get(i));
                    } else if (dropping) {
                        drop(value.fields.get(i));
                    }
                }
            }

            private Value build(Node node, List<Value> values) {
                Value value = new Value();
                value.kind = node.text;
                value.fields = values;
                if (values.isEmpty()) {
                    return value;
                }
                for (int i = shells.size() - 1; i >= 0; i--) {
                    if ((Integer) shells.get(i)[0] == values.size()) {
                        shells.remove(i);
                        reused++;
                        return value;
                    }
                }
                if (held == limit) {
                    throw new Stop(3, node.place);
                }
                made++;
                held++;
                most = Math.max(most, held);
                return value;
            }
        }
    }
}
