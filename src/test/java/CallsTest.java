/**
 * Call by call, what the document's promises refuse: the last that is taken and the first that is
 * refused, which refusal comes first, and that a refused call changes nothing.
 */
public final class CallsTest extends Asking {
    private static final String LATER = "turns 2;costs 3;lasts 4;";

    public static void main(String[] args) {
        newObject();
        set();
        flower();
        told();
        feed();
        text();
        force();
        lay();
        draw();
        stem();
        bunch();
        good();
        next();
        howMany();
        order();
        forMoney();
        worst();
        tells();
        film();
        drawn();
        chance();
        image();
        back();
        count();
        sheet();
        cell();
        copy();
        copyOverItself();
        flowers();
        flowersThatCame();
        taken();
        end();
    }

    /** Something of everything: what an IMAGE keeps is not as it is now. */
    private static FortyStems busy() {
        FortyStems x = new FortyStems();
        x.set(0, 0, 150);
        x.set(1, 0, 2);
        x.flower(0, 1);
        x.flower(1, 2);
        x.lay(0);
        x.image();
        x.flower(5, 9);
        x.flower(3, 4);
        x.set(3, 1, 4);
        x.set(4, 2, 0);
        x.set(2, 3, 8);
        textOf(x, text("1", "2", "3"));
        x.force(1);
        x.lay(3);
        x.lay(1);
        x.lay(0);
        feedAll(x, LATER);
        fill(x, 0, 0, 3, 6, 9, 12);
        fill(x, 1, 1, 5, 4, 1);
        fill(x, 2, 2, 0, 2, 15, 7, 8);
        return x;
    }

    private static FortyStems empty() {
        return new FortyStems();
    }

    private static FortyStems sixFlowers() {
        FortyStems x = new FortyStems();
        for (int f = 0; f < 6; f++) {
            x.flower(f, f);
        }
        return x;
    }

    private static FortyStems fullTape() {
        FortyStems x = new FortyStems();
        feedAll(x, LATER + " ".repeat(160 - LATER.length()));
        return x;
    }

    private static FortyStems sixTexts() {
        FortyStems x = new FortyStems();
        x.flower(0, 0);
        for (int t = 1; t < 6; t++) {
            textOf(x, text("" + t, "" + t, "" + t));
        }
        feedAll(x, LATER);
        return x;
    }

    private static FortyStems fortyStems() {
        FortyStems x = new FortyStems();
        x.flower(0, 0);
        x.flower(4, 0);
        x.set(4, 0, 40);
        for (int i = 0; i < 40; i++) {
            x.lay(0);
        }
        x.set(4, 0, 1);
        x.set(4, 1, 0);
        return x;
    }

    private static void newObject() {
        says("Promise 1: No FLOWERS, nothing in the hand");
        FortyStems x = new FortyStems();
        int[] counts = {0, 0, 0, 1, 0, 0};
        for (int what = 0; what <= 5; what++) {
            due("count " + what, x.count(what), counts[what]);
        }
        int[] bunch = {0, 0, 0, 200, 0, 0, 0, 0, -100000, -100000, 0, 0, 0, 0, 0};
        for (int what = 0; what < bunch.length; what++) {
            due("bunch " + what, x.bunch(what), bunch[what]);
        }
        due("good", x.good(0), 0);
        due("next", x.next(0), NONE);
        due("touching by next", x.next(1), 0);
        due("forMoney", x.forMoney(9999), 0);
        due("worst", x.worst(0), NONE);
        due("touching by worst", x.worst(1), 0);
        due("no stem", x.stem(0, 0), BAD);
        FortyStems other = busy();
        due("nothing is shared", other.count(0), 4);
        due("so", x.count(0), 0);
        due("nor this", x.back(), STATE);
    }

    private static void set() {
        says("Promise 2: set: .. of does not matter (0, 1); BAD");
        int[] most = {400, 15, 9, 4, 40};
        for (int what = 0; what <= 4; what++) {
            int w = what;
            int[] none = {-1, LOW, most[what] + 1, HIGH};
            for (int v : none) {
                refused("set(" + w + ", 0, " + v + ")", CallsTest::busy, x -> x.set(w, 0, v), BAD);
            }
            int[] flowers = {-1, 4, LOW, HIGH};
            for (int of : flowers) {
                if (what < 2) {
                    FortyStems x = busy();
                    due("of " + of, x.set(w, of, most[w]), w == 0 ? 150 : 2);
                    due("then", x.told(of, w), most[w]);
                } else {
                    refused("set(" + w + ", " + of + ", 0)", CallsTest::busy, x -> x.set(w, of, 0), BAD);
                }
            }
            FortyStems x = busy();
            x.set(w, 3, most[w]);
            due("what it was, of the last flower", x.set(w, 3, 0), most[w]);
            due("the least", x.set(w, 3, 1), 0);
        }
        int[] what = {-1, 5, 6, 9, LOW, HIGH};
        for (int w : what) {
            refused("set(" + w + ", 0, 0)", CallsTest::busy, x -> x.set(w, 0, 0), BAD);
        }
        refused("set without flowers", CallsTest::empty, x -> x.set(2, 0, 0), BAD);
    }

    private static void flower() {
        says("Promise 3: flower: BAD; FULL");
        int[] kinds = {-1, 6, LOW, HIGH};
        int[] numbers = {-1, 10, LOW, HIGH};
        for (int kind : kinds) {
            refused("flower(" + kind + ", 0)", CallsTest::busy, x -> x.flower(kind, 0), BAD);
            refused("full: flower(" + kind + ", 0)", CallsTest::sixFlowers, x -> x.flower(kind, 0), BAD);
        }
        for (int number : numbers) {
            refused("flower(0, " + number + ")", CallsTest::busy, x -> x.flower(0, number), BAD);
            refused("full: flower(0, " + number + ")", CallsTest::sixFlowers, x -> x.flower(0, number), BAD);
        }
        refused("full: flower(0, 0)", CallsTest::sixFlowers, x -> x.flower(0, 0), FULL);
        refused("full: flower(5, 9)", CallsTest::sixFlowers, x -> x.flower(5, 9), FULL);
        FortyStems x = busy();
        due("the fifth", x.flower(5, 9), 4);
        due("the sixth", x.flower(0, 0), 5);
        due("full", x.flower(0, 0), FULL);
        x.back();
        due("room again when all is as it was", x.flower(4, 0), 2);
    }

    private static void told() {
        says("Promise 4: told: what 0 .. 9. BAD");
        FortyStems x = busy();
        int[] first = {150, 2, 1, 0, 8, 0, 3, 1, 2, 3};
        int[] last = {150, 2, 8, 0, 9, 3, 5, 2, 0, 4};
        for (int what = 0; what <= 9; what++) {
            due("of 0, what " + what, x.told(0, what), first[what]);
            due("of 3, what " + what, x.told(3, what), last[what]);
            int w = what;
            int[] none = {-1, 4, LOW, HIGH};
            for (int of : none) {
                if (what < 2) {
                    due("of " + of, x.told(of, what), first[what]);
                } else {
                    refused("told(" + of + ", " + w + ")", CallsTest::busy, y -> y.told(of, w), BAD);
                }
            }
        }
        int[] none = {-1, 10, LOW, HIGH};
        for (int what : none) {
            refused("told(0, " + what + ")", CallsTest::busy, y -> y.told(0, what), BAD);
        }
    }

    private static void feed() {
        says("Promise 5: feed: A byte (0 .. 255). BAD; FULL");
        int[] none = {-1, 256, LOW, HIGH};
        for (int letter : none) {
            refused("feed(" + letter + ")", CallsTest::busy, x -> x.feed(letter), BAD);
            refused("full: feed(" + letter + ")", CallsTest::fullTape, x -> x.feed(letter), BAD);
        }
        refused("full: feed(0)", CallsTest::fullTape, x -> x.feed(0), FULL);
        refused("full: feed(255)", CallsTest::fullTape, x -> x.feed(255), FULL);
        FortyStems x = new FortyStems();
        due("0", x.feed(0), 1);
        due("255", x.feed(255), 2);
        for (int i = 3; i <= 160; i++) {
            due("so many", x.feed(i), i);
        }
        due("161", x.feed(32), FULL);
    }

    private static void text() {
        says("Promise 6: text: .. empty then (by a FAULT, too). FULL (ahead of all) (THE TAPE stays)");
        FortyStems x = new FortyStems();
        due("an empty tape", x.text(), -100);
        due("a text", textOf(x, LATER), 1);
        due("empty", x.count(4), 0);
        due("a fault", textOf(x, LATER + ";"), -100 - LATER.length());
        due("empty too", x.count(4), 0);
        due("so it ends too early", x.text(), -100);
        due("no text came", x.count(3), 2);
        due("a text behind a fault", textOf(x, LATER), 2);
        refused("a seventh", CallsTest::sixTexts, FortyStems::text, FULL);
        Ready wrong = () -> feedAll(sixTexts(), "!");
        refused("a seventh with a fault", wrong, FortyStems::text, FULL);
        Ready none = () -> {
            FortyStems y = new FortyStems();
            for (int t = 1; t < 6; t++) {
                textOf(y, LATER);
            }
            return y;
        };
        refused("a seventh of no bytes", none, FortyStems::text, FULL);
        FortyStems z = sixTexts();
        z.text();
        due("the tape stays", z.count(4), LATER.length());
        due("and grows", z.feed(32), LATER.length() + 1);
    }

    private static void force() {
        says("Promise 7: force: A TEXT is THE RULE: which was. BAD");
        int[] none = {-1, 2, LOW, HIGH};
        for (int text : none) {
            refused("force(" + text + ")", CallsTest::busy, x -> x.force(text), BAD);
        }
        FortyStems x = sixTexts();
        due("5", x.force(5), 0);
        due("5 again", x.force(5), 5);
        due("0", x.force(0), 5);
        due("6", x.force(6), BAD);
        due("stays", x.count(5), 0);
    }

    private static void lay() {
        says("Promise 8: lay: BAD; STATE: none is in the BUCKET; FULL: 40 are laid, or there is no room");
        int[] none = {-1, 4, LOW, HIGH};
        for (int flower : none) {
            refused("lay(" + flower + ")", CallsTest::busy, x -> x.lay(flower), BAD);
        }
        refused("no flowers", CallsTest::empty, x -> x.lay(0), BAD);
        refused("none in the bucket", CallsTest::busy, x -> x.lay(2), STATE);
        refused("forty are laid", CallsTest::fortyStems, x -> x.lay(0), FULL);
        refused("forty are laid, none in the bucket", CallsTest::fortyStems, x -> x.lay(1), STATE);
        refused("forty are laid, none such", CallsTest::fortyStems, x -> x.lay(2), BAD);
        Ready noRoom = () -> {
            FortyStems x = busy();
            x.set(0, 0, x.told(0, 0) - x.bunch(3) + 2);
            return x;
        };
        refused("room for 2", noRoom, x -> x.lay(0), FULL);
        refused("room for 2, none in the bucket", noRoom, x -> x.lay(2), STATE);
        Ready belowZero = () -> {
            FortyStems x = busy();
            x.set(0, 0, 0);
            return x;
        };
        refused("room below 0", belowZero, x -> x.lay(0), FULL);
        FortyStems x = noRoom.make();
        x.set(0, 0, x.told(0, 0) + 1);
        due("room for 3", x.lay(0) >= 0 ? 1 : 0, 1);
        due("no room is left", x.bunch(3), 0);
        due("none goes in", x.lay(0), FULL);
    }

    private static void draw() {
        says("Promise 9: draw: TO DRAW OUT, truly: which FLOWER it was. BAD");
        int[] none = {-1, 4, LOW, HIGH};
        for (int stem : none) {
            refused("draw(" + stem + ")", CallsTest::busy, x -> x.draw(stem), BAD);
        }
        refused("no stems", CallsTest::empty, x -> x.draw(0), BAD);
        refused("of forty", CallsTest::fortyStems, x -> x.draw(40), BAD);
        FortyStems x = busy();
        due("the last", x.draw(3), 0);
        due("the first", x.draw(0), 0);
        due("the second of two", x.draw(1), 1);
        due("the only one", x.draw(0), 3);
        due("no more", x.draw(0), BAD);
        due("the last of forty", fortyStems().draw(39), 0);
    }

    private static void stem() {
        says("Promise 10: stem: Of a STEM the FLOWER (what 0), the ANGLE (1). BAD");
        int[] none = {-1, 4, LOW, HIGH};
        for (int stem : none) {
            refused("stem(" + stem + ", 0)", CallsTest::busy, x -> x.stem(stem, 0), BAD);
            refused("stem(" + stem + ", 1)", CallsTest::busy, x -> x.stem(stem, 1), BAD);
        }
        int[] what = {-1, 2, LOW, HIGH};
        for (int w : what) {
            refused("stem(0, " + w + ")", CallsTest::busy, x -> x.stem(0, w), BAD);
        }
        FortyStems x = busy();
        int[] flowers = {0, 3, 1, 0};
        int[] angles = {5, 7, 9, 10};
        for (int s = 0; s < 4; s++) {
            due("flower of " + s, x.stem(s, 0), flowers[s]);
            due("angle of " + s, x.stem(s, 1), angles[s]);
        }
    }

    private static void bunch() {
        says("Promise 11: bunch: .. -100000: what");
        int[] none = {-1, 8, 9, 15, LOW, HIGH};
        for (int what : none) {
            refused("bunch(" + what + ")", CallsTest::busy, x -> x.bunch(what), -100000);
        }
        FortyStems x = busy();
        // at 5 7 9 10, of colours 0 0 4 0; costs 2, 4 - 8, 4, 2; thick 3, 5, 5, 3
        int[] due = {0, 2, 8, 134, 0, 2, 2, 0, -100000, -100000, 3, 0, 0, 0, 1};
        for (int what = 0; what < due.length; what++) {
            due("bunch " + what, x.bunch(what), due[what]);
        }
    }

    private static void good() {
        says("Promise 12: good: GOOD: how many. BAD");
        int[] none = {-1, 100, LOW, HIGH};
        for (int day : none) {
            refused("good(" + day + ")", CallsTest::busy, x -> x.good(day), BAD);
        }
        FortyStems x = busy();
        due("day 0", x.good(0), 4);
        due("day 3", x.good(3), 4);
        due("day 4", x.good(4), 1);
        due("day 5", x.good(5), 0);
        due("day 99", x.good(99), 0);
    }

    private static void next() {
        says("Promise 13: next: NEXT (what 0; NONE), TOUCHING then (1; as now, if none). BAD");
        int[] none = {-1, 2, LOW, HIGH};
        for (int what : none) {
            refused("next(" + what + ")", CallsTest::busy, x -> x.next(what), BAD);
            refused("no flowers: next(" + what + ")", CallsTest::empty, x -> x.next(what), BAD);
        }
        refused("forty are laid", CallsTest::fortyStems, x -> x.next(0), NONE);
        FortyStems x = fortyStems();
        due("as now", x.next(1), x.bunch(0));
    }

    private static void howMany() {
        says("Promise 14: howMany: HOW MANY. BAD");
        int[] none = {-1, 4, LOW, HIGH};
        for (int flower : none) {
            refused("howMany(" + flower + ")", CallsTest::busy, x -> x.howMany(flower), BAD);
        }
        refused("no flowers", CallsTest::empty, x -> x.howMany(0), BAD);
        refused("forty are laid", CallsTest::fortyStems, x -> x.howMany(0), 0);
        refused("none in the bucket", CallsTest::busy, x -> x.howMany(2), 0);
    }

    private static void order() {
        says("Promise 15: order: BAD: SHEET, what; -11; BAD: it tells none such");
        int[] sheets = {-1, 4, LOW, HIGH};
        int[] what = {-1, 2, LOW, HIGH};
        for (int sheet : sheets) {
            refused("order(" + sheet + ", 0)", CallsTest::busy, x -> x.order(sheet, 0), BAD);
        }
        for (int w : what) {
            refused("order(1, " + w + ")", CallsTest::busy, x -> x.order(1, w), BAD);
            refused("missing: order(3, " + w + ")", CallsTest::busy, x -> x.order(3, w), BAD);
        }
        refused("missing", CallsTest::busy, x -> x.order(3, 0), NOTHING);
        refused("missing, what 1", CallsTest::busy, x -> x.order(3, 1), NOTHING);
        refused("missing, no flowers", CallsTest::empty, x -> x.order(0, 1), NOTHING);
        refused("flower 5 is none", CallsTest::busy, x -> x.order(1, 0), BAD);
        refused("15, 7 and 8 are none", CallsTest::busy, x -> x.order(2, 1), BAD);
        int[][] none = {{}, {4}, {-1}, {0, 4}, {4, 0}, {0, 1, 2, 3, 0, 4}, {0, 0, 0, 0, 0, 0, 0}, {256}, {LOW}};
        for (int[] row : none) {
            Ready ready = () -> fill(busy(), 2, 2, row);
            refused("of " + row.length, ready, x -> x.order(2, 0), BAD);
            refused("order of " + row.length, ready, x -> x.order(2, 1), BAD);
        }
        FortyStems x = fill(busy(), 2, 2, 3, 3, 2, 2, 1, 0);
        due("six are taken", x.order(2, 1) > 100000 ? 1 : 0, 1);
        fill(x, 2, 2, 3);
        due("one is taken", x.order(2, 1), 1);
        due("nothing is laid", x.count(1), 4);
    }

    private static void forMoney() {
        says("Promise 16: forMoney: FOR k. BAD");
        int[] none = {-1, 10000, LOW, HIGH};
        for (int k : none) {
            refused("forMoney(" + k + ")", CallsTest::busy, x -> x.forMoney(k), BAD);
            refused("no flowers: forMoney(" + k + ")", CallsTest::empty, x -> x.forMoney(k), BAD);
        }
        FortyStems x = busy();
        // a TULIP costs 0 (9 of them), flower 0 costs 2 (8 of them), the ROSE 4 (9), no POPPY is there
        due("0", x.forMoney(0), 9);
        due("1", x.forMoney(1), 9);
        due("2", x.forMoney(2), 10);
        due("16", x.forMoney(16), 17);
        due("19", x.forMoney(19), 17);
        due("20", x.forMoney(20), 18);
        due("51", x.forMoney(51), 25);
        due("52", x.forMoney(52), 26);
        due("9999", x.forMoney(9999), 26);
    }

    private static void worst() {
        says("Promise 17: worst: WORST (what 0; NONE), TOUCHING then (1; as now, if none). BAD");
        int[] none = {-1, 2, LOW, HIGH};
        for (int what : none) {
            refused("worst(" + what + ")", CallsTest::busy, x -> x.worst(what), BAD);
            refused("no stems: worst(" + what + ")", CallsTest::empty, x -> x.worst(what), BAD);
        }
        refused("none touch", CallsTest::busy, x -> x.worst(0), NONE);
        refused("as now", CallsTest::busy, x -> x.worst(1), 0);
    }

    private static void tells() {
        says("Promise 18: tells: BAD: SHEET, no such FLOWER, what; -11; BAD: it tells more than 20");
        int[] sheets = {-1, 4, LOW, HIGH};
        int[] flowers = {-1, 4, LOW, HIGH};
        int[] what = {-1, 6, LOW, HIGH};
        for (int i = 0; i < 4; i++) {
            int s = sheets[i];
            int f = flowers[i];
            int w = what[i];
            refused("tells(" + s + ", 0, 0)", CallsTest::busy, x -> x.tells(s, 0, 0), BAD);
            refused("tells(0, " + f + ", 0)", CallsTest::busy, x -> x.tells(0, f, 0), BAD);
            refused("tells(0, 0, " + w + ")", CallsTest::busy, x -> x.tells(0, 0, w), BAD);
            refused("missing: tells(3, " + f + ", 0)", CallsTest::busy, x -> x.tells(3, f, 0), BAD);
            refused("missing: tells(3, 0, " + w + ")", CallsTest::busy, x -> x.tells(3, 0, w), BAD);
        }
        for (int w = 0; w <= 5; w++) {
            int part = w;
            refused("missing, what " + w, CallsTest::busy, x -> x.tells(3, 0, part), NOTHING);
            Ready many = () -> {
                FortyStems x = busy();
                x.sheet(2, 2, 21);
                return x;
            };
            refused("21, what " + w, many, x -> x.tells(2, 0, part), BAD);
            FortyStems x = busy();
            x.sheet(2, 2, 20);
            due("20, what " + w, x.tells(2, 0, part), 0);
            due("changes nothing", x.told(0, 1), 2);
            due("nor the rule", x.count(5), 1);
        }
        refused("no flowers", CallsTest::empty, x -> x.tells(0, 0, 0), BAD);
    }

    private static void film() {
        says("Promise 19: film: A SHEET truly becomes n (0 .. 20) of these ANGLES (bytes): n. BAD");
        int[] sheets = {-1, 4, LOW, HIGH};
        int[] flowers = {-1, 4, LOW, HIGH};
        int[] many = {-1, 21, LOW, HIGH};
        for (int i = 0; i < 4; i++) {
            int s = sheets[i];
            int f = flowers[i];
            int n = many[i];
            refused("film(" + s + ", 0, 1)", CallsTest::busy, x -> x.film(s, 0, 1), BAD);
            refused("film(1, " + f + ", 1)", CallsTest::busy, x -> x.film(1, f, 1), BAD);
            refused("film(1, 0, " + n + ")", CallsTest::busy, x -> x.film(1, 0, n), BAD);
            refused("missing: film(3, 0, " + n + ")", CallsTest::busy, x -> x.film(3, 0, n), BAD);
        }
        refused("no flowers", CallsTest::empty, x -> x.film(0, 0, 0), BAD);
        for (int n = 0; n <= 20; n++) {
            for (int sheet = 0; sheet < 4; sheet++) {
                FortyStems x = busy();
                due("film of " + n, x.film(sheet, 0, n), n);
                due("its size", sizeOf(x, sheet), n);
                due("its sort", sortOf(x, sheet), 0);
                due("as told", x.tells(sheet, 0, 0), NONE);
                int[] angles = new int[n];
                for (int i = 0; i < n; i++) {
                    angles[i] = (2 + i + 1) % 16;
                }
                fill(x, sheet, 2, angles);
                due("so by hand", x.tells(sheet, 0, 0), NONE);
                due("nothing is laid", x.count(1), 4);
            }
        }
    }

    private static void drawn() {
        says("Promise 20: drawn: DRAWN. BAD: n; STATE: there are no FLOWERS");
        int[] none = {-1, 41, LOW, HIGH};
        for (int n : none) {
            refused("drawn(0, " + n + ")", CallsTest::busy, x -> x.drawn(0, n), BAD);
            refused("no flowers: drawn(0, " + n + ")", CallsTest::empty, x -> x.drawn(0, n), BAD);
        }
        refused("no flowers, n 0", CallsTest::empty, x -> x.drawn(0, 0), STATE);
        refused("no flowers, n 40", CallsTest::empty, x -> x.drawn(LOW, 40), STATE);
        refused("n 0", CallsTest::busy, x -> x.drawn(HIGH, 0), 0);
        FortyStems x = fortyStems();
        due("behind forty none is laid", x.drawn(3, 40), x.bunch(0));
        due("so they stay", x.count(1), 40);
    }

    private static void chance() {
        says("Promise 21: chance: NO: m, k, part; there are no FLOWERS");
        int[] seeds = {0, LOW, HIGH};
        for (int seed : seeds) {
            int[][] none = {{0, 0, 0}, {21, 0, 0}, {-1, 0, 0}, {LOW, 0, 0}, {HIGH, 0, 0}, {1, -1, 0}, {1, 1000, 0},
                {1, LOW, 0}, {1, HIGH, 0}, {1, 0, -1}, {1, 0, 2}, {1, 0, LOW}, {1, 0, HIGH}};
            for (int[] a : none) {
                String call = "chance(" + seed + ", " + a[0] + ", " + a[1] + ", " + a[2] + ")";
                refused(call, CallsTest::busy, x -> x.chance(seed, a[0], a[1], a[2]), NO);
            }
            refused("no flowers", CallsTest::empty, x -> x.chance(seed, 1, 0, 0), NO);
            refused("no flowers, below", CallsTest::empty, x -> x.chance(seed, 20, 999, 1), NO);
            refused("m 1", CallsTest::busy, x -> x.chance(seed, 1, 999, 1), 1);
            refused("m 20", CallsTest::busy, x -> x.chance(seed, 20, 999, 0), 1);
        }
    }

    private static void image() {
        says("Promise 22: image: AN IMAGE is kept: how many FLOWERS");
        FortyStems x = new FortyStems();
        due("of none", x.image(), 0);
        for (int f = 0; f < 6; f++) {
            x.flower(f, f);
            due("of " + (f + 1), x.image(), f + 1);
        }
        due("the last one counts", x.back(), 6);
        FortyStems y = fortyStems();
        y.image();
        y.draw(0);
        y.image();
        y.draw(0);
        y.back();
        due("not the first one", y.count(1), 39);
    }

    private static void back() {
        says("Promise 23: back: All that it keeps is as in THE IMAGE. STATE: there is none");
        refused("no image", CallsTest::sixFlowers, FortyStems::back, STATE);
        refused("no image, forty stems", CallsTest::fortyStems, FortyStems::back, STATE);
        FortyStems x = new FortyStems();
        x.image();
        x.flower(0, 0);
        x.lay(0);
        due("to nothing", x.back(), 0);
        due("no stems", x.count(1), 0);
        due("no flowers", x.lay(0), BAD);
        due("again", x.back(), 0);
        FortyStems y = busy();
        due("to two", y.back(), 2);
        due("flower 2 is gone", y.told(2, 2), BAD);
        due("a new one comes as one comes", y.flower(2, 7), 2);
        int[] told = {7, 0, 10, 2};
        for (int what = 2; what <= 5; what++) {
            due("what " + what, y.told(2, what), told[what - 2]);
        }
        due("one stem", y.count(1), 1);
        due("the rule", y.count(5), 0);
        due("texts stay", y.count(3), 2);
    }

    private static void count() {
        says("Promise 24: count: what 0 .. 5. BAD");
        int[] none = {-1, 6, LOW, HIGH};
        for (int what : none) {
            refused("count(" + what + ")", CallsTest::busy, x -> x.count(what), BAD);
        }
        FortyStems x = busy();
        int[] due = {4, 4, 8 + 9 + 0 + 9, 2, LATER.length(), 1};
        for (int what = 0; what <= 5; what++) {
            due("count " + what, x.count(what), due[what]);
        }
        FortyStems y = sixFlowers();
        for (int f = 0; f < 6; f++) {
            y.set(4, f, 40);
        }
        due("in all buckets", y.count(2), 240);
        due("the sixth text", sixTexts().count(3), 6);
        due("a full tape", fullTape().count(4), 160);
    }

    private static void sheet() {
        says("Promise 25: sheet: .. BAD: no such SHEET, sort; n above 40; -14");
        int[] sheets = {-1, 4, LOW, HIGH};
        int[] sorts = {-2, 3, LOW, HIGH};
        for (int s : sheets) {
            refused("sheet(" + s + ", 0, 1)", CallsTest::busy, x -> x.sheet(s, 0, 1), BAD);
            refused("sheet(" + s + ", -1, 1)", CallsTest::busy, x -> x.sheet(s, -1, 1), BAD);
            refused("sheet(" + s + ", 0, -1)", CallsTest::busy, x -> x.sheet(s, 0, -1), BAD);
        }
        for (int sort : sorts) {
            refused("sheet(0, " + sort + ", 1)", CallsTest::busy, x -> x.sheet(0, sort, 1), BAD);
            refused("sheet(0, " + sort + ", -1)", CallsTest::busy, x -> x.sheet(0, sort, -1), BAD);
        }
        for (int sort = 0; sort < 3; sort++) {
            int t = sort;
            refused("41", CallsTest::busy, x -> x.sheet(2, t, 41), BAD);
            refused("high", CallsTest::busy, x -> x.sheet(2, t, HIGH), BAD);
            refused("-1", CallsTest::busy, x -> x.sheet(2, t, -1), BELOW);
            refused("low", CallsTest::busy, x -> x.sheet(2, t, LOW), BELOW);
            for (int sheet = 0; sheet < 4; sheet++) {
                FortyStems x = busy();
                due("40", x.sheet(sheet, t, 40), 1);
                due("its size", sizeOf(x, sheet), 40);
                due("its sort", sortOf(x, sheet), t);
                due("none", x.sheet(sheet, t, 0), 1);
                due("its size then", sizeOf(x, sheet), 0);
            }
        }
        int[] any = {0, 40, 41, -1, LOW, HIGH};
        for (int n : any) {
            FortyStems x = busy();
            due("missing, n does not matter", x.sheet(2, -1, n), 1);
            due("is missing", x.cell(2, 0, 0), NOTHING);
        }
        FortyStems x = fill(busy(), 2, 2, 3, 6, 9);
        x.sheet(2, 2, 3);
        x.set(1, 0, 15);
        // text 1 turns 1, so a FLOWER would be laid at 0 from 15 on
        due("all 0", x.tells(2, 0, 0), 1);
        x.copy(2, 1, 2, 0, 2);
        due("so the second", x.tells(2, 0, 0), 1);
        x.copy(2, 2, 2, 0, 1);
        due("so the third", x.tells(2, 0, 0), 1);
    }

    private static void cell() {
        says("Promise 26: cell: .. BAD: no such SHEET; -11; -12");
        int[] sheets = {-1, 4, LOW, HIGH};
        for (int s : sheets) {
            refused("cell(" + s + ", 0, 1)", CallsTest::busy, x -> x.cell(s, 0, 1), BAD);
            refused("cell(" + s + ", -1, 1)", CallsTest::busy, x -> x.cell(s, -1, 1), BAD);
        }
        int[] none = {-1, 40, LOW, HIGH};
        for (int i : none) {
            refused("missing: cell(3, " + i + ", 1)", CallsTest::busy, x -> x.cell(3, i, 1), NOTHING);
            for (int s = 0; s < 3; s++) {
                int sheet = s;
                refused("cell(" + s + ", " + i + ", 1)", CallsTest::busy, x -> x.cell(sheet, i, 1), OUTSIDE);
            }
        }
        refused("missing: cell(3, 0, 1)", CallsTest::busy, x -> x.cell(3, 0, 1), NOTHING);
        int[] sizes = {4, 3, 5};
        for (int s = 0; s < 3; s++) {
            int sheet = s;
            refused("behind the last", CallsTest::busy, x -> x.cell(sheet, sizes[sheet], 1), OUTSIDE);
            FortyStems x = busy();
            due("the last", x.cell(s, sizes[s] - 1, 1), 1);
            due("the first", x.cell(s, 0, 1), 1);
        }
        Ready ofNone = () -> {
            FortyStems x = busy();
            x.sheet(2, 2, 0);
            return x;
        };
        refused("of none", ofNone, x -> x.cell(2, 0, 1), OUTSIDE);
        FortyStems x = busy();
        x.sheet(3, 0, 40);
        due("item 39 of 40", x.cell(3, 39, 1), 1);
        due("item 40 of 40", x.cell(3, 40, 1), OUTSIDE);
    }

    private static void copy() {
        says("Promise 27: copy: .. BAD: no such SHEET; -11; -13; -12 (also with n below 0)");
        int[] none = {-1, 4, LOW, HIGH};
        for (int s : none) {
            refused("copy of " + s, CallsTest::busy, x -> x.copy(s, 0, 0, 0, 1), BAD);
            refused("copy to " + s, CallsTest::busy, x -> x.copy(0, 0, s, 0, 1), BAD);
            refused("copy of " + s + " to a missing one", CallsTest::busy, x -> x.copy(s, 0, 3, 0, 1), BAD);
            refused("copy of a missing one to " + s, CallsTest::busy, x -> x.copy(3, 0, s, 0, 1), BAD);
        }
        refused("of a missing one", CallsTest::busy, x -> x.copy(3, 0, 0, 0, 1), NOTHING);
        refused("to a missing one", CallsTest::busy, x -> x.copy(0, 0, 3, 0, 1), NOTHING);
        refused("of none of a missing one", CallsTest::busy, x -> x.copy(3, 0, 3, 0, 0), NOTHING);
        refused("missing and outside", CallsTest::busy, x -> x.copy(0, -1, 3, 0, -1), NOTHING);
        for (int s = 0; s < 3; s++) {
            int a = s;
            int b = (s + 1) % 3;
            refused("unlike", CallsTest::busy, x -> x.copy(a, 0, b, 0, 1), OTHER);
            refused("unlike, none", CallsTest::busy, x -> x.copy(a, 0, b, 0, 0), OTHER);
            refused("unlike and outside", CallsTest::busy, x -> x.copy(a, -1, b, 99, -1), OTHER);
        }
        FortyStems z = sixFlowers();
        fill(z, 0, 2, 5, 3, 6, 9, 7);
        fill(z, 1, 2, 3, 1, 1);
        due("1 of them", z.copy(0, 2, 1, 1, 1), 1);
        due("came to item 1", z.tells(1, 0, 0), 2);
        due("2 of them", z.copy(0, 2, 1, 1, 2), 2);
        due("came to item 2 too", z.tells(1, 0, 0), NONE);
        due("and to the first", z.copy(0, 4, 1, 0, 1), 1);
        due("so this is otherwise", z.tells(1, 0, 0), 0);
        // of five items of SHEET 2 to three of SHEET 1
        Ready two = () -> fill(busy(), 1, 2, 1, 4, 5);
        int[][] outside = {{0, 0, -1}, {0, 0, LOW}, {-1, 0, 1}, {0, -1, 1}, {-1, 0, 0}, {0, -1, 0}, {LOW, 0, 1},
            {0, LOW, 1}, {6, 0, 0}, {0, 4, 0}, {5, 0, 1}, {0, 3, 1}, {3, 0, 3}, {0, 1, 3}, {0, 0, 4}, {HIGH, 0, 1},
            {0, HIGH, 1}, {0, 0, HIGH}, {1, 0, HIGH}, {0, 1, HIGH}, {HIGH, HIGH, HIGH}, {5, 3, -1}, {LOW, LOW, LOW},
            {2, 2, LOW}, {HIGH, 0, 0}, {HIGH, 0, -1}, {4, 0, 2}, {0, 2, 2}};
        for (int[] a : outside) {
            String call = "copy(2, " + a[0] + ", 1, " + a[1] + ", " + a[2] + ")";
            refused(call, two, x -> x.copy(2, a[0], 1, a[1], a[2]), OUTSIDE);
        }
        int[][] inside = {{0, 0, 0}, {5, 0, 0}, {0, 3, 0}, {5, 3, 0}, {0, 0, 3}, {2, 0, 3}, {4, 0, 1}, {0, 2, 1},
            {4, 2, 1}, {3, 1, 2}};
        int[] of = {0, 2, 15, 7, 8};
        for (int[] a : inside) {
            int[] to = {1, 4, 5};
            for (int i = 0; i < a[2]; i++) {
                to[a[1] + i] = of[a[0] + i];
            }
            FortyStems x = two.make();
            due("copy(2, " + a[0] + ", 1, " + a[1] + ", " + a[2] + ")", x.copy(2, a[0], 1, a[1], a[2]), a[2]);
            alike(x, fill(busy(), 1, 2, to));
        }
    }

    private static void alike(FortyStems x, FortyStems y) {
        due("all else and this", allOf(x).equals(allOf(y)) ? 1 : 0, 1);
    }

    private static void copyOverItself() {
        says("Promise 27: copy: n numbers .. come to another one's item j on (as they were)");
        for (int i = 0; i <= 5; i++) {
            for (int j = 0; j <= 5; j++) {
                for (int n = 0; n <= 5 - Math.max(i, j); n++) {
                    int[] row = {0, 2, 15, 7, 8};
                    System.arraycopy(row.clone(), i, row, j, n);
                    FortyStems x = busy();
                    due("over itself", x.copy(2, i, 2, j, n), n);
                    alike(x, fill(busy(), 2, 2, row));
                }
            }
        }
        FortyStems x = busy();
        x.sheet(0, 0, 40);
        x.sheet(1, 0, 40);
        due("40", x.copy(0, 0, 1, 0, 40), 40);
        due("41", x.copy(0, 0, 1, 0, 41), OUTSIDE);
    }

    private static void flowers() {
        says("Promise 28: flowers: .. BAD: no such SHEET, sort, n; -13; -11; -12");
        int[] sheets = {-1, 4, LOW, HIGH};
        int[] sorts = {-1, 3, LOW, HIGH};
        int[] many = {-1, 7, LOW, HIGH};
        for (int i = 0; i < 4; i++) {
            int s = sheets[i];
            int t = sorts[i];
            int n = many[i];
            refused("flowers(" + s + ", 0, 0, 1)", CallsTest::busy, x -> x.flowers(s, 0, 0, 1), BAD);
            refused("flowers(0, " + t + ", 0, 1)", CallsTest::busy, x -> x.flowers(0, t, 0, 1), BAD);
            refused("flowers(0, 0, 0, " + n + ")", CallsTest::busy, x -> x.flowers(0, 0, 0, n), BAD);
            refused("another sort: n " + n, CallsTest::busy, x -> x.flowers(0, 1, 0, n), BAD);
            refused("missing: n " + n, CallsTest::busy, x -> x.flowers(3, 1, 0, n), BAD);
            refused("missing: sort " + t, CallsTest::busy, x -> x.flowers(3, t, 0, 1), BAD);
        }
        for (int s = 0; s < 3; s++) {
            int sheet = s;
            refused("another sort", CallsTest::busy, x -> x.flowers(sheet, (sheet + 1) % 3, 0, 1), OTHER);
            refused("another sort, none", CallsTest::busy, x -> x.flowers(sheet, (sheet + 2) % 3, 0, 0), OTHER);
            refused("another sort, outside", CallsTest::busy, x -> x.flowers(sheet, (sheet + 1) % 3, 99, 1), OTHER);
            refused("missing for sort " + s, CallsTest::busy, x -> x.flowers(3, sheet, 0, 1), NOTHING);
            refused("missing, outside", CallsTest::busy, x -> x.flowers(3, sheet, -1, 6), NOTHING);
        }
        int[] from = {-1, -2, LOW, HIGH, HIGH - 1, 4, 5, 6, 40};
        for (int f : from) {
            refused("from " + f, CallsTest::busy, x -> x.flowers(2, 2, f, 1), OUTSIDE);
            refused("from " + f + ", none", CallsTest::busy, x -> x.flowers(2, 2, f, 0), 0);
            refused("from " + f + ", six", CallsTest::busy, x -> x.flowers(2, 2, f, 6), OUTSIDE);
        }
        refused("of no such kind", CallsTest::busy, x -> x.flowers(2, 2, 2, 1), 0);
    }

    private static void flowersThatCame() {
        says("Promise 28: flowers: from one on, two by two, n of them (0 .. 6): how many came; what stood ahead came");
        int[] row = {0, 0, 5, 9, 6, 0, -1, 0, 0, -1, 0, 10, 3, 4};
        boolean[] comes = {true, true, false, false, false, false, true};
        for (int n = 0; n <= 6; n++) {
            FortyStems x = fill(new FortyStems(), 0, n % 3, row);
            int came = Math.min(n, 2);
            due("the first " + n, x.flowers(0, n % 3, 0, n), came);
            due("came", x.count(0), came);
            FortyStems y = fill(new FortyStems(), 0, n % 3, row);
            came = 0;
            for (int i = 7 - n; i < 7; i++) {
                came += comes[i] ? 1 : 0;
            }
            due("the last " + n, y.flowers(0, n % 3, 14 - 2 * n, n), came);
            due("came too", y.count(0), came);
        }
        FortyStems x = fill(new FortyStems(), 0, 1, 1, 2, 3, 4, 5);
        due("half a pair behind two", x.flowers(0, 1, 0, 3), OUTSIDE);
        due("two came", x.count(0), 2);
        due("from 1 on", x.flowers(0, 1, 1, 3), OUTSIDE);
        due("two more", x.count(0), 4);
        int[] kinds = {1, 3, 2, 4};
        int[] numbers = {2, 4, 3, 5};
        for (int f = 0; f < 4; f++) {
            due("kind", x.told(f, 5), kinds[f]);
            due("number", x.told(f, 2), numbers[f]);
            due("colour", x.told(f, 3), 0);
            due("bucket", x.told(f, 4), 10);
        }
        due("from the last on", x.flowers(0, 1, 4, 1), OUTSIDE);
        due("none came", x.count(0), 4);
        x.sheet(1, 2, 12);
        due("two of six have room", x.flowers(1, 2, 0, 6), 2);
        due("none has room", x.flowers(1, 2, 0, 6), 0);
        due("outside when full", x.flowers(1, 2, 2, 6), OUTSIDE);
        x.sheet(1, 2, 40);
        due("the end of forty", x.flowers(1, 2, 28, 6), 0);
        due("behind it", x.flowers(1, 2, 29, 6), OUTSIDE);
    }

    private static void taken() {
        says("Promise 29: taken: .. BAD: k; -11: no such FLOWER; -13");
        int[] kinds = {-1, 6, LOW, HIGH};
        int[] none = {-1, 6, LOW, HIGH};
        for (int i = 0; i < 4; i++) {
            int k = kinds[i];
            int f = none[i];
            refused("taken(0, " + k + ")", CallsTest::sixFlowers, x -> x.taken(0, k), BAD);
            refused("taken(6, " + k + ")", CallsTest::sixFlowers, x -> x.taken(6, k), BAD);
            refused("taken(" + f + ", 0)", CallsTest::sixFlowers, x -> x.taken(f, 0), NOTHING);
            refused("taken(" + f + ", 5)", CallsTest::sixFlowers, x -> x.taken(f, 5), NOTHING);
        }
        refused("no flowers", CallsTest::empty, x -> x.taken(0, 0), NOTHING);
        String[] under = {"0", "01", "02", "013", "024", "05"};
        for (int f = 0; f < 6; f++) {
            for (int k = 0; k < 6; k++) {
                int flower = f;
                int kind = k;
                int due = under[f].indexOf('0' + k) >= 0 ? f : OTHER;
                refused("taken(" + f + ", " + k + ")", CallsTest::sixFlowers, x -> x.taken(flower, kind), due);
            }
        }
    }
}
