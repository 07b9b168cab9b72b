import java.util.ArrayList;
import java.util.Arrays;
import java.util.List;
import java.util.Random;

/**
 * Random runs of calls, of which each answer is held against a second, slow program that was
 * written from the document in another way: flowers that inherit, texts as trees, all pairs
 * counted anew, all orders tried. The seeds are fixed, so each run of the test is the same.
 */
public final class ModelTest {
    private static final int RUNS = 1500, CALLS = 512;
    private static int wrong = 0;

    public static void main(String[] args) {
        for (int run = 0; run < RUNS && wrong < 10; run++) {
            new Run(run).go();
        }
        System.out.println(RUNS + " runs against the model, " + wrong + " wrong");
        if (wrong != 0) {
            System.exit(1);
        }
    }

    /** One object and one model, which get the same calls. */
    private static final class Run {
        final Random random;
        final int number;
        final FortyStems x = new FortyStems();
        final Model m = new Model();
        final List<String> log = new ArrayList<>();
        int calls = 0;
        boolean lost = false;

        Run(int number) {
            this.number = number;
            this.random = new Random(number);
        }

        void go() {
            int flowers = random.nextInt(7);
            for (int i = 0; i < flowers; i++) {
                call(1, random.nextInt(6), random.nextInt(10), 0, 0, 0);
                call(0, 3, i, random.nextInt(1 + random.nextInt(5)), 0, 0);
                call(0, 4, i, random.nextInt(41), 0, 0);
            }
            if (random.nextBoolean()) {
                call(0, 0, 0, 400, 0, 0);
            }
            if (number % 4 == 0) {
                layNearlyAll();
            }
            while (calls < CALLS && !lost) {
                step();
            }
        }

        /** So that forty stems, and no room for more, are no rarity. */
        void layNearlyAll() {
            call(0, 0, 0, 400, 0, 0);
            for (int i = 0; i < 36 + random.nextInt(5); i++) {
                int f = random.nextInt(Math.max(1, m.flowers.size()));
                call(0, 4, f, 40, 0, 0);
                call(6, f, 0, 0, 0, 0);
            }
        }

        void step() {
            int p = random.nextInt(100);
            if (p < 2) {
                giveText();
            } else if (p < 25) {
                call(6, arg(6), 0, 0, 0, 0);
            } else if (p < 30) {
                fillSheet();
            } else {
                int method = random.nextInt(28);
                // a byte or a text out of the blue would spoil nearly every text
                if ((method == 3 || method == 4) && random.nextInt(20) != 0) {
                    return;
                }
                call(method, arg(9), arg(9), arg(9), arg(9), arg(9));
            }
        }

        void giveText() {
            String text = new Writer(random).text();
            for (int i = 0; i < text.length(); i++) {
                call(3, text.charAt(i), 0, 0, 0, 0);
            }
            call(4, 0, 0, 0, 0, 0);
            call(5, random.nextInt(m.texts.size()), 0, 0, 0, 0);
        }

        void fillSheet() {
            int sheet = random.nextInt(4);
            if (random.nextInt(3) == 0) {
                call(18, sheet, arg(6), random.nextInt(21), 0, 0);
                if (random.nextInt(3) == 0) {
                    call(25, sheet, random.nextInt(20), random.nextInt(16), 0, 0);
                }
                return;
            }
            int n = random.nextInt(8);
            call(24, sheet, random.nextInt(3), n, 0, 0);
            for (int i = 0; i < n; i++) {
                call(25, sheet, i, random.nextInt(1 + Math.max(1, m.flowers.size())), 0, 0);
            }
        }

        int arg(int most) {
            int p = random.nextInt(40);
            if (p == 0) {
                return random.nextInt();
            }
            if (p == 1) {
                int[] edges = {Integer.MIN_VALUE, Integer.MAX_VALUE, -1, 10, 15, 16, 20, 21, 39, 40, 41,
                    99, 100, 400, 401, 999, 1000, 9999, 10000};
                return edges[random.nextInt(edges.length)];
            }
            if (p < 5) {
                return random.nextInt(420) - 5;
            }
            return p < 14 ? random.nextInt(45) : random.nextInt(most + 1) - random.nextInt(20) / 19;
        }

        void call(int method, int a, int b, int c, int d, int e) {
            if (lost || calls >= CALLS) {
                return;
            }
            calls++;
            String call = method + "(" + a + "," + b + "," + c + "," + d + "," + e + ")";
            log.add(call);
            long due = m.answer(method, a, b, c, d, e);
            long got = real(method, a, b, c, d, e);
            if (got != due) {
                wrong++;
                lost = true;
                System.out.println("run " + number + " call " + calls + " " + call + " answered " + got
                    + ", the model says " + due);
                System.out.println("  ahead of it " + log.subList(Math.max(0, log.size() - 12), log.size()));
            }
        }

        long real(int method, int a, int b, int c, int d, int e) {
            switch (method) {
                case 0: return x.set(a, b, c);
                case 1: return x.flower(a, b);
                case 2: return x.told(a, b);
                case 3: return x.feed(a);
                case 4: return x.text();
                case 5: return x.force(a);
                case 6: return x.lay(a);
                case 7: return x.draw(a);
                case 8: return x.stem(a, b);
                case 9: return x.bunch(a);
                case 10: return x.good(a);
                case 11: return x.next(a);
                case 12: return x.howMany(a);
                case 13: return x.order(a, b);
                case 14: return x.forMoney(a);
                case 15: return x.worst(a);
                case 16: return x.tells(a, b, c);
                case 17: return x.chance(a, b, c, d);
                case 18: return x.film(a, b, c);
                case 19: return x.drawn(a, b);
                case 20: return x.image();
                case 21: return x.back();
                case 22: return x.count(a);
                case 23: return x.taken(a, b);
                case 24: return x.sheet(a, b, c);
                case 25: return x.cell(a, b, c);
                case 26: return x.copy(a, b, c, d, e);
                default: return x.flowers(a, b, c, d);
            }
        }
    }

    /** Writes texts, some of them with a fault. */
    private static final class Writer {
        final Random random;
        final StringBuilder out = new StringBuilder();

        Writer(Random random) {
            this.random = random;
        }

        String text() {
            String[] parts = {"turns", "costs", "lasts"};
            int depth = 1 + random.nextInt(4);
            for (String part : parts) {
                out.append(part);
                blank();
                write(depth, 0);
                blank();
                out.append(';');
                blank();
            }
            if (random.nextInt(3) == 0) {
                spoil();
            }
            if (out.length() > 160) {
                out.setLength(160);
            }
            return out.toString();
        }

        void blank() {
            out.append(random.nextInt(30) == 0 ? "\n" : " ");
        }

        void write(int depth, int level) {
            if (depth <= 0 || random.nextInt(4) == 0) {
                leaf();
                return;
            }
            String[] signs = {" or ", " and ", "<", "=", "+", "-", "*"};
            switch (random.nextInt(6)) {
                case 0:
                    out.append(random.nextBoolean() ? "not " : "-");
                    write(depth - 1, level);
                    break;
                case 1:
                    out.append("(");
                    write(depth - 1, level);
                    out.append(")");
                    break;
                default:
                    write(depth - 2, level);
                    out.append(signs[random.nextInt(signs.length)]);
                    write(depth - 1, level);
            }
        }

        void leaf() {
            String[] names = {"stem", "colour", "number", "angle", "left", "room"};
            if (random.nextInt(3) > 0) {
                out.append(names[random.nextInt(6)]);
            } else {
                out.append(random.nextInt(random.nextInt(10) == 0 ? 10000 : 12));
            }
        }

        void spoil() {
            int at = random.nextInt(out.length());
            String bytes = "()();+-*<= \n09azT!\u00ff";
            char c = bytes.charAt(random.nextInt(bytes.length()));
            switch (random.nextInt(5)) {
                case 0: out.setCharAt(at, c); break;
                case 1: out.insert(at, c); break;
                case 2: out.deleteCharAt(at); break;
                case 3: out.setLength(at); break;
                default:
                    String[] more = {" not ", " - - ", "((", "))", " 1 ", "12345", " or ", " lasts ", "------", "((((((",
                        " not not not not not not "};
                    out.insert(at, more[random.nextInt(more.length)]);
            }
        }
    }

    // ---- flowers that inherit

    private static class Flower implements Cloneable {
        int number;
        int colour = 0;
        int bucket = 10;

        static Flower of(int kind, int number) {
            Flower[] all = {new Flower(), new Rose(), new Green(), new Tulip(), new Fern(), new Poppy()};
            all[kind].number = number;
            return all[kind];
        }

        int kind() {
            Class<?>[] all = {Flower.class, Rose.class, Green.class, Tulip.class, Fern.class, Poppy.class};
            return Arrays.asList(all).indexOf(getClass());
        }

        boolean is(int kind) {
            return of(kind, 0).getClass().isInstance(this);
        }

        Flower twin() {
            return as(kind());
        }

        Flower as(int kind) {
            Flower f = of(kind, number);
            f.colour = colour;
            f.bucket = bucket;
            return f;
        }

        int thick() { return 3; }
        int turns(int v) { return v; }
        int costs(int v) { return v; }
        int lasts(int v) { return v; }
    }

    private static class Rose extends Flower {
        @Override int thick() { return super.thick() + number; }
        @Override int turns(int v) { return super.turns(v) + 1; }
        @Override int costs(int v) { return 2 * super.costs(v); }
    }

    private static class Green extends Flower {
        @Override int thick() { return super.thick() - 2; }
        @Override int costs(int v) { return super.costs(v) / 2; }
        @Override int lasts(int v) { return super.lasts(v) * 2; }
    }

    private static final class Tulip extends Rose {
        @Override int thick() { return super.thick() / 2; }
        @Override int costs(int v) { return super.costs(v) - number; }
        @Override int lasts(int v) { return super.lasts(v) + 1; }
    }

    private static final class Fern extends Green {
        @Override int turns(int v) { return 2 * super.turns(v); }
        @Override int lasts(int v) { return super.lasts(v) + number; }
    }

    private static final class Poppy extends Flower {
        @Override int thick() { return 2 + number / 2; }
        @Override int turns(int v) { return 0 - super.turns(v); }
        @Override int lasts(int v) { return 1; }
    }

    // ---- texts as trees

    private interface Tree {
        int value(int[] names);
    }

    private static final class Fault extends RuntimeException {
        final int place;

        Fault(int place) {
            super(null, null, false, false);
            this.place = place;
        }
    }

    private record Token(String word, int place) {
    }

    private static final class Parser {
        static final List<String> NAMES = List.of("stem", "colour", "number", "angle", "left", "room");
        static final List<String> KEYS = List.of("turns", "costs", "lasts", "or", "and", "not");
        final List<Token> tokens = new ArrayList<>();
        int at = 0;
        int open = 0;

        /** A token that is none is kept as "?", which can stand nowhere. */
        Parser(String text) {
            int i = 0;
            while (i < text.length()) {
                int j = i;
                while (j < text.length() && text.charAt(j) >= 'a' && text.charAt(j) <= 'z') {
                    j++;
                }
                if (j == i) {
                    while (j < text.length() && text.charAt(j) >= '0' && text.charAt(j) <= '9') {
                        j++;
                    }
                }
                if (j == i) {
                    j++;
                }
                String word = text.substring(i, j);
                if (!word.equals(" ") && !word.equals("\n")) {
                    tokens.add(new Token(isOne(word) ? word : "?", i));
                }
                i = j;
            }
            tokens.add(new Token("", text.length()));
        }

        static boolean isOne(String word) {
            return NAMES.contains(word) || KEYS.contains(word) || word.matches("[0-9]{1,4}")
                || word.length() == 1 && "();+-*<=".contains(word);
        }

        boolean sees(String word) {
            return tokens.get(at).word().equals(word);
        }

        boolean takes(String word) {
            if (!sees(word)) {
                return false;
            }
            at++;
            return true;
        }

        void need(String word) {
            if (!sees(word)) {
                throw new Fault(tokens.get(at).place());
            }
            at++;
        }

        Tree[] text() {
            Tree[] parts = new Tree[3];
            for (int i = 0; i < 3; i++) {
                need(KEYS.get(i));
                parts[i] = level(0);
                need(";");
            }
            if (at != tokens.size() - 1) {
                throw new Fault(tokens.get(at).place());
            }
            return parts;
        }

        /** 0 or, 1 and, 2 not and comparing, 3 sum, 4 term, 5 one. */
        Tree level(int level) {
            if (level == 2) {
                return negation();
            }
            if (level == 5) {
                return one();
            }
            Tree a = level(level + 1);
            while (true) {
                Tree left = a;
                if (level == 0 && takes("or")) {
                    Tree b = level(1);
                    a = n -> left.value(n) != 0 | b.value(n) != 0 ? 1 : 0;
                } else if (level == 1 && takes("and")) {
                    Tree b = level(2);
                    a = n -> left.value(n) != 0 & b.value(n) != 0 ? 1 : 0;
                } else if (level == 3 && takes("+")) {
                    Tree b = level(4);
                    a = n -> left.value(n) + b.value(n);
                } else if (level == 3 && takes("-")) {
                    Tree b = level(4);
                    a = n -> left.value(n) - b.value(n);
                } else if (level == 4 && takes("*")) {
                    Tree b = level(5);
                    a = n -> left.value(n) * b.value(n);
                } else {
                    return a;
                }
            }
        }

        Tree negation() {
            if (sees("not")) {
                opens("not");
                Tree a = negation();
                open--;
                return n -> a.value(n) == 0 ? 1 : 0;
            }
            Tree a = level(3);
            if (takes("<")) {
                Tree b = level(3);
                return n -> a.value(n) < b.value(n) ? 1 : 0;
            }
            if (takes("=")) {
                Tree b = level(3);
                return n -> a.value(n) == b.value(n) ? 1 : 0;
            }
            return a;
        }

        void opens(String word) {
            if (open == 5) {
                throw new Fault(tokens.get(at).place());
            }
            need(word);
            open++;
        }

        Tree one() {
            String word = tokens.get(at).word();
            if (NAMES.contains(word)) {
                at++;
                return n -> n[NAMES.indexOf(word)];
            }
            if (word.matches("[0-9]+")) {
                at++;
                return n -> Integer.parseInt(word);
            }
            if (word.equals("-")) {
                opens("-");
                Tree a = one();
                open--;
                return n -> -a.value(n);
            }
            opens("(");
            Tree a = level(0);
            need(")");
            open--;
            return a;
        }
    }

    // ---- the model

    private static final class State {
        int hand = 200;
        int begin = 0;
        int rule = 0;
        List<Flower> flowers = new ArrayList<>();
        List<int[]> bunch = new ArrayList<>();

        State twin() {
            State s = new State();
            s.hand = hand;
            s.begin = begin;
            s.rule = rule;
            for (Flower f : flowers) {
                s.flowers.add(f.twin());
            }
            for (int[] stem : bunch) {
                s.bunch.add(stem.clone());
            }
            return s;
        }

        int room() {
            int room = hand;
            for (int[] stem : bunch) {
                room -= flowers.get(stem[0]).thick();
            }
            return room;
        }

        int angle() {
            return bunch.isEmpty() ? begin : bunch.get(bunch.size() - 1)[1];
        }

        boolean canBe(int f) {
            return flowers.get(f).bucket > 0 && bunch.size() < 40 && flowers.get(f).thick() <= room();
        }

        int touching() {
            int pairs = 0;
            for (int i = 0; i < bunch.size(); i++) {
                for (int j = 0; j < i; j++) {
                    int apart = Math.abs(bunch.get(i)[1] - bunch.get(j)[1]);
                    boolean near = Math.min(apart, 16 - apart) <= 1;
                    if (near && flowers.get(bunch.get(i)[0]).colour == flowers.get(bunch.get(j)[0]).colour) {
                        pairs++;
                    }
                }
            }
            return pairs;
        }
    }

    private static final class Model {
        static final long NO = -4611686018427387904L;
        State s = new State();
        List<Flower> flowers = s.flowers;
        State image = null;
        final StringBuilder tape = new StringBuilder();
        final List<Tree[]> texts = new ArrayList<>();
        final Object[] sheets = new Object[4];

        Model() {
            texts.add(new Parser("turns 3 ; costs 10 ; lasts 5 ;").text());
        }

        void become(State other) {
            s = other;
            flowers = s.flowers;
        }

        static boolean in(int v, int least, int most) {
            return v >= least && v <= most;
        }

        boolean isFlower(int f) {
            return in(f, 0, flowers.size() - 1);
        }

        int tell(State t, Flower f, int part) {
            int[] names = {t.bunch.size(), f.colour, f.number, t.angle(), f.bucket, t.room()};
            int v = texts.get(t.rule)[part].value(names);
            int[] least = {-16, 0, 0};
            int[] most = {16, 999, 30};
            v = v < least[part] ? least[part] : v > most[part] ? most[part] : v;
            return part == 0 ? f.turns(v) : part == 1 ? Math.max(0, f.costs(v)) : f.lasts(v);
        }

        int put(State t, int f) {
            Flower flower = t.flowers.get(f);
            int angle = (t.angle() + tell(t, flower, 0) + 64) % 16;
            t.bunch.add(new int[] {f, angle});
            flower.bucket--;
            return angle;
        }

        int size(int sheet) {
            return sizeOf(sheets[sheet]);
        }

        int item(int sheet, int i) {
            return itemOf(sheets[sheet], i);
        }

        static int sizeOf(Object row) {
            return row instanceof byte[] b ? b.length : row instanceof short[] h ? h.length : ((int[]) row).length;
        }

        /** Not by java.lang.reflect.Array.getInt: what that answers made Java 17.0.15's compilers crash. */
        static int itemOf(Object row, int i) {
            return row instanceof byte[] b ? b[i] : row instanceof short[] h ? h[i] : ((int[]) row)[i];
        }

        long answer(int method, int a, int b, int c, int d, int e) {
            switch (method) {
                case 0: return set(a, b, c);
                case 1: return flower(a, b);
                case 2: return told(a, b);
                case 3: return feed(a);
                case 4: return text();
                case 5: return force(a);
                case 6: return lay(a);
                case 7: return draw(a);
                case 8: return !in(a, 0, s.bunch.size() - 1) || !in(b, 0, 1) ? -2 : s.bunch.get(a)[b];
                case 9: return bunch(a);
                case 10: return good(a);
                case 11: return next(a);
                case 12: return howMany(a);
                case 13: return order(a, b);
                case 14: return forMoney(a);
                case 15: return worst(a);
                case 16: return tells(a, b, c);
                case 17: return chance(a, b, c, d);
                case 18: return film(a, b, c);
                case 19: return !in(b, 0, 40) ? -2 : flowers.isEmpty() ? -3 : drawn(a, b);
                case 20:
                    image = s.twin();
                    return flowers.size();
                case 21:
                    if (image == null) {
                        return -3;
                    }
                    become(image.twin());
                    return flowers.size();
                case 22: return count(a);
                case 23: return !in(b, 0, 5) ? -2 : !isFlower(a) ? -11
                    : flowers.get(a).is(b) ? flowers.get(a).number : -13;
                case 24: return sheet(a, b, c);
                case 25: return cell(a, b, c);
                case 26: return copy(a, b, c, d, e);
                default: return flowersOf(a, b, c, d);
            }
        }

        int set(int what, int of, int v) {
            int[] most = {400, 15, 9, 4, 40};
            if (!in(what, 0, 4) || !in(v, 0, most[what]) || what > 1 && !isFlower(of)) {
                return -2;
            }
            int was = told(of, what);
            if (what == 0) {
                s.hand = v;
            } else if (what == 1) {
                s.begin = v;
            } else if (what == 2) {
                flowers.get(of).number = v;
            } else if (what == 3) {
                flowers.get(of).colour = v;
            } else {
                flowers.get(of).bucket = v;
            }
            return was;
        }

        int flower(int kind, int number) {
            if (!in(kind, 0, 5) || !in(number, 0, 9)) {
                return -2;
            }
            if (flowers.size() == 6) {
                return -4;
            }
            flowers.add(Flower.of(kind, number));
            return flowers.size() - 1;
        }

        int told(int of, int what) {
            if (what == 0) {
                return s.hand;
            }
            if (what == 1) {
                return s.begin;
            }
            if (!in(what, 0, 9) || !isFlower(of)) {
                return -2;
            }
            Flower f = flowers.get(of);
            int[] plain = {0, 0, f.number, f.colour, f.bucket, f.kind(), Math.max(1, f.thick())};
            return what < 7 ? plain[what] : tell(s, f, what - 7);
        }

        int feed(int letter) {
            if (!in(letter, 0, 255)) {
                return -2;
            }
            if (tape.length() == 160) {
                return -4;
            }
            return tape.append((char) letter).length();
        }

        int text() {
            if (texts.size() == 6) {
                return -4;
            }
            String all = tape.toString();
            tape.setLength(0);
            try {
                texts.add(new Parser(all).text());
                return texts.size() - 1;
            } catch (Fault f) {
                return -100 - f.place;
            }
        }

        int force(int text) {
            if (!in(text, 0, texts.size() - 1)) {
                return -2;
            }
            int was = s.rule;
            s.rule = text;
            return was;
        }

        int lay(int f) {
            if (!isFlower(f)) {
                return -2;
            }
            if (flowers.get(f).bucket == 0) {
                return -3;
            }
            return s.canBe(f) ? put(s, f) : -4;
        }

        int draw(int stem) {
            if (!in(stem, 0, s.bunch.size() - 1)) {
                return -2;
            }
            int f = s.bunch.remove(stem)[0];
            flowers.get(f).bucket = Math.min(40, flowers.get(f).bucket + 1);
            return f;
        }

        int bunch(int what) {
            if (what == 0) {
                return s.touching();
            }
            if (what == 1) {
                int[] q = {bunch(4), bunch(5), bunch(6), bunch(7)};
                Arrays.sort(q);
                return q[3] - q[0];
            }
            if (what == 2) {
                return s.bunch.stream().mapToInt(st -> tell(s, flowers.get(st[0]), 1)).sum();
            }
            if (what == 3) {
                return s.room();
            }
            if (in(what, 4, 7)) {
                return (int) s.bunch.stream().filter(st -> st[1] / 4 == what - 4).count();
            }
            if (in(what, 10, 14)) {
                return (int) s.bunch.stream().filter(st -> flowers.get(st[0]).colour == what - 10).count();
            }
            return -100000;
        }

        int good(int day) {
            if (!in(day, 0, 99)) {
                return -2;
            }
            return (int) s.bunch.stream().filter(st -> tell(s, flowers.get(st[0]), 2) >= day).count();
        }

        int next(int what) {
            if (!in(what, 0, 1)) {
                return -2;
            }
            int best = -1;
            int fewest = Integer.MAX_VALUE;
            for (int f = 0; f < flowers.size(); f++) {
                if (s.canBe(f)) {
                    State t = s.twin();
                    put(t, f);
                    if (t.touching() < fewest) {
                        fewest = t.touching();
                        best = f;
                    }
                }
            }
            return what == 0 ? best : best < 0 ? s.touching() : fewest;
        }

        int howMany(int f) {
            if (!isFlower(f)) {
                return -2;
            }
            State t = s.twin();
            int many = 0;
            while (t.canBe(f)) {
                put(t, f);
                many++;
            }
            return many;
        }

        int order(int sheet, int what) {
            if (!in(sheet, 0, 3) || !in(what, 0, 1)) {
                return -2;
            }
            if (sheets[sheet] == null) {
                return -11;
            }
            int n = size(sheet);
            if (!in(n, 1, 6)) {
                return -2;
            }
            for (int i = 0; i < n; i++) {
                if (!isFlower(item(sheet, i))) {
                    return -2;
                }
            }
            int[] best = {Integer.MAX_VALUE, 0};
            tryAll(sheet, new ArrayList<>(), best);
            return best[what];
        }

        void tryAll(int sheet, List<Integer> places, int[] best) {
            int n = size(sheet);
            if (places.size() == n) {
                State t = s.twin();
                int digits = 0;
                for (int place : places) {
                    if (t.canBe(item(sheet, place))) {
                        put(t, item(sheet, place));
                    }
                    digits = digits * 10 + place + 1;
                }
                if (t.touching() < best[0]) {
                    best[0] = t.touching();
                    best[1] = digits;
                }
                return;
            }
            for (int i = 0; i < n; i++) {
                if (!places.contains(i)) {
                    places.add(i);
                    tryAll(sheet, places, best);
                    places.remove(places.size() - 1);
                }
            }
        }

        /** By a table of the least money for so many stems, not from the cheapest on. */
        int forMoney(int k) {
            if (!in(k, 0, 9999)) {
                return -2;
            }
            long[] least = new long[241];
            Arrays.fill(least, Long.MAX_VALUE / 2);
            least[0] = 0;
            for (Flower f : flowers) {
                int costs = tell(s, f, 1);
                for (int i = 0; i < f.bucket; i++) {
                    for (int n = 240; n > 0; n--) {
                        least[n] = Math.min(least[n], least[n - 1] + costs);
                    }
                }
            }
            int most = 240;
            while (least[most] > k) {
                most--;
            }
            return most;
        }

        int worst(int what) {
            if (!in(what, 0, 1)) {
                return -2;
            }
            int worst = -1;
            int fewest = s.touching();
            for (int i = 0; i < s.bunch.size(); i++) {
                State t = s.twin();
                t.bunch.remove(i);
                if (t.touching() < fewest) {
                    fewest = t.touching();
                    worst = i;
                }
            }
            return what == 0 ? worst : fewest;
        }

        int[] angles(State t, Flower f, int n) {
            State empty = t.twin();
            empty.flowers.clear();
            empty.bunch.clear();
            empty.flowers.add(f.twin());
            int[] angles = new int[n];
            for (int i = 0; i < n; i++) {
                angles[i] = put(empty, 0);
            }
            return angles;
        }

        int tells(int sheet, int flower, int what) {
            if (!in(sheet, 0, 3) || !isFlower(flower) || !in(what, 0, 5)) {
                return -2;
            }
            if (sheets[sheet] == null) {
                return -11;
            }
            int n = size(sheet);
            if (n > 20) {
                return -2;
            }
            int[] told = new int[n];
            for (int i = 0; i < n; i++) {
                told[i] = item(sheet, i);
            }
            if (what == 0) {
                return Arrays.mismatch(told, angles(s, flowers.get(flower), n));
            }
            int[] many = {0, 6, 10, 5, 16, texts.size()};
            int bits = 0;
            for (int v = 0; v < many[what]; v++) {
                State t = s.twin();
                Flower f = flowers.get(flower).as(what == 1 ? v : flowers.get(flower).kind());
                f.number = what == 2 ? v : f.number;
                f.colour = what == 3 ? v : f.colour;
                t.begin = what == 4 ? v : t.begin;
                t.rule = what == 5 ? v : t.rule;
                bits |= Arrays.equals(told, angles(t, f, n)) ? 1 << v : 0;
            }
            return bits;
        }

        int film(int sheet, int flower, int n) {
            if (!in(sheet, 0, 3) || !isFlower(flower) || !in(n, 0, 20)) {
                return -2;
            }
            int[] angles = angles(s, flowers.get(flower), n);
            byte[] row = new byte[n];
            for (int i = 0; i < n; i++) {
                row[i] = (byte) angles[i];
            }
            sheets[sheet] = row;
            return n;
        }

        int drawn(int seed, int n) {
            State t = s.twin();
            int z = seed;
            for (int i = 0; i < n; i++) {
                z = z * 1103515245 + 12345;
                int f = (z >>> 9) % flowers.size();
                if (t.canBe(f)) {
                    put(t, f);
                }
            }
            return t.touching();
        }

        long chance(int seed, int m, int k, int part) {
            if (!in(m, 1, 20) || !in(k, 0, 999) || !in(part, 0, 1) || flowers.isEmpty()) {
                return NO;
            }
            int few = 0;
            for (int i = 0; i < m; i++) {
                few += drawn(seed + i, 20) <= k ? 1 : 0;
            }
            java.math.BigInteger common = java.math.BigInteger.valueOf(few).gcd(java.math.BigInteger.valueOf(m));
            return (part == 0 ? few : m) / common.intValue();
        }

        int count(int what) {
            if (!in(what, 0, 5)) {
                return -2;
            }
            int buckets = flowers.stream().mapToInt(f -> f.bucket).sum();
            int[] all = {flowers.size(), s.bunch.size(), buckets, texts.size(), tape.length(), s.rule};
            return all[what];
        }

        int sheet(int sheet, int sort, int n) {
            if (!in(sheet, 0, 3) || !in(sort, -1, 2)) {
                return -2;
            }
            if (sort >= 0 && n > 40) {
                return -2;
            }
            try {
                sheets[sheet] = sort < 0 ? null : sort == 0 ? new byte[n] : sort == 1 ? new short[n] : new int[n];
                return 1;
            } catch (NegativeArraySizeException ex) {
                return -14;
            }
        }

        /** Here the machine's own exceptions say what is due. */
        int cell(int sheet, int i, int v) {
            if (!in(sheet, 0, 3)) {
                return -2;
            }
            try {
                if (sheets[sheet] instanceof byte[] row) {
                    row[i] = (byte) v;
                } else if (sheets[sheet] instanceof short[] row) {
                    row[i] = (short) v;
                } else {
                    ((int[]) sheets[sheet])[i] = v;
                }
                return 1;
            } catch (NullPointerException ex) {
                return -11;
            } catch (ArrayIndexOutOfBoundsException ex) {
                return -12;
            }
        }

        int copy(int sheet, int i, int other, int j, int n) {
            if (!in(sheet, 0, 3) || !in(other, 0, 3)) {
                return -2;
            }
            try {
                System.arraycopy(sheets[sheet], i, sheets[other], j, n);
                return n;
            } catch (NullPointerException ex) {
                return -11;
            } catch (ArrayStoreException ex) {
                return -13;
            } catch (IndexOutOfBoundsException ex) {
                return -12;
            }
        }

        int flowersOf(int sheet, int sort, int from, int n) {
            if (!in(sheet, 0, 3) || !in(sort, 0, 2) || !in(n, 0, 6)) {
                return -2;
            }
            Class<?>[] sorts = {byte[].class, short[].class, int[].class};
            try {
                Object row = sorts[sort].cast(sheets[sheet]);
                sizeOf(row);
                int came = 0;
                for (int i = 0; i < n; i++) {
                    int kind = itemOf(row, from + 2 * i);
                    int number = itemOf(row, from + 2 * i + 1);
                    came += flower(kind, number) >= 0 ? 1 : 0;
                }
                return came;
            } catch (ClassCastException ex) {
                return -13;
            } catch (NullPointerException ex) {
                return -11;
            } catch (ArrayIndexOutOfBoundsException ex) {
                return -12;
            }
        }
    }
}
