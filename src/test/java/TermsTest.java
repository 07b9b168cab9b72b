/** Each sentence of the document's 'Terms' that names a bound, in its order. */
public final class TermsTest extends Asking {
    private static final int FORTY = 40;

    public static void main(String[] args) {
        hand();
        begin();
        sixFlowers();
        kinds();
        numbers();
        colours();
        buckets();
        stemsInOrder();
        anglesGoRound();
        constants();
        thickOfNumbers();
        turnsOfKinds();
        costsOfKinds();
        lastsOfKinds();
        tapeOf160();
        bytesOfTokens();
        longTokens();
        numbersOfFourDigits();
        blanks();
        textThatEndsTooEarly();
        textThatGoesOn();
        grammarOfE();
        wordsThatAreNone();
        leftmostFault();
        fiveOpen();
        openTillItsEnd();
        wrappingInts();
        trueAndFalse();
        sixTexts();
        nameStem();
        nameColour();
        nameNumber();
        nameAngle();
        nameLeft();
        nameRoom();
        boundsOfTurns();
        boundsOfCosts();
        boundsOfLasts();
        textZero();
        toLay();
        oneInTheBucket();
        fewerThanForty();
        noMoreThickThanRoom();
        apart();
        oneColour();
        quarters();
        even();
        cost();
        goodOnADay();
        toDrawOut();
        nextOne();
        howManyGoIn();
        bestOrder();
        ofLikeOrders();
        laidInThought();
        leftOutOfAnOrder();
        forSoMuch();
        worstStem();
        toldTwenty();
        toldBits();
        toldBelowZero();
        drawnBySeed();
        inSeeds();
        imageKeeps();
        imageKeepsNoOther();
        sheetsAtFirst();
        sortsOfSheets();
        end();
    }

    private static void fault(String text, int place) {
        due("fault of '" + text + "'", textOf(new FortyStems(), text), -100 - place);
    }

    private static void taken(String text) {
        due("'" + text + "'", textOf(new FortyStems(), text), 1);
    }

    /** Under the rule turns left, one of a FLOWER of KIND 0 can be laid at any ANGLE. */
    private static void layAt(FortyStems x, int flower, int angle) {
        int stems = x.count(1);
        int last = stems == 0 ? x.told(0, 1) : x.stem(stems - 1, 1);
        int turns = Math.floorMod(angle - last, 16);
        x.set(4, flower, turns == 0 ? 16 : turns);
        due("a stem at " + angle, x.lay(flower), angle);
    }

    private static void settingIs(FortyStems x, int what, int first, int most) {
        due("at first", x.told(0, what), first);
        due("the most", x.set(what, 0, most), first);
        due("one more", x.set(what, 0, most + 1), BAD);
        due("far more", x.set(what, 0, HIGH), BAD);
        due("the most stands", x.told(0, what), most);
        due("the least", x.set(what, 0, 0), most);
        due("below 0", x.set(what, 0, -1), BAD);
        due("far below 0", x.set(what, 0, LOW), BAD);
        due("the least stands", x.told(0, what), 0);
    }

    private static void hand() {
        says("HAND: room for so much (0 .. 400; 200 at first)");
        settingIs(new FortyStems(), 0, 200, 400);
    }

    private static void begin() {
        says("BEGIN: an ANGLE (0 .. 15; 0 at first)");
        settingIs(new FortyStems(), 1, 0, 15);
    }

    private static void sixFlowers() {
        says("FLOWERS (6 at most, numbered from 0)");
        FortyStems x = new FortyStems();
        due("none is told", x.told(0, 5), BAD);
        for (int i = 0; i < 6; i++) {
            due("one more", x.flower(0, i), i);
            due("is there", x.told(i, 2), i);
            due("none behind it", x.told(i + 1, 2), BAD);
        }
        due("a seventh", x.flower(0, 6), FULL);
        due("six stay", x.count(0), 6);
    }

    private static void kinds() {
        says("FLOWERS have a KIND: 0 .. 5");
        FortyStems x = new FortyStems();
        due("-1", x.flower(-1, 0), BAD);
        due("6", x.flower(6, 0), BAD);
        due("0", x.flower(0, 0), 0);
        due("5", x.flower(5, 0), 1);
        due("so", x.told(0, 5), 0);
        due("and so", x.told(1, 5), 5);
    }

    private static void numbers() {
        says("a NUMBER (0 .. 9)");
        FortyStems x = new FortyStems();
        due("-1", x.flower(0, -1), BAD);
        due("10", x.flower(0, 10), BAD);
        due("9", x.flower(0, 9), 0);
        due("0", x.flower(0, 0), 1);
        due("is 9", x.told(0, 2), 9);
        due("is 0", x.told(1, 2), 0);
        settingIs(x, 2, 9, 9);
    }

    private static void colours() {
        says("a COLOUR (0 .. 4; 0 as one comes)");
        FortyStems x = new FortyStems();
        x.flower(0, 0);
        settingIs(x, 3, 0, 4);
        x.set(3, 0, 4);
        x.flower(0, 0);
        due("of the next as well", x.told(1, 3), 0);
    }

    private static void buckets() {
        says("so many in the BUCKET (0 .. 40; 10 as one comes)");
        FortyStems x = new FortyStems();
        x.flower(0, 0);
        settingIs(x, 4, 10, 40);
        x.flower(0, 0);
        due("of the next as well", x.told(1, 4), 10);
    }

    private static void stemsInOrder() {
        says("STEMS (40 at most), in the order in which they were laid");
        FortyStems x = new FortyStems();
        for (int f = 0; f < 6; f++) {
            x.flower(2, 0);
        }
        for (int i = 0; i < FORTY; i++) {
            due("one more", x.lay(i * 5 % 6) >= 0 ? 1 : 0, 1);
        }
        due("forty-first", x.lay(0), FULL);
        for (int i = 0; i < FORTY; i++) {
            due("stem " + i, x.stem(i, 0), i * 5 % 6);
            due("its angle", x.stem(i, 1), 3 * (i + 1) % 16);
        }
        due("none behind", x.stem(FORTY, 0), BAD);
    }

    private static void anglesGoRound() {
        says("at an ANGLE (0 .. 15, going round)");
        for (int v = -16; v <= 16; v++) {
            FortyStems x = ruled("" + v, "0", "0");
            int[] turns = {v, v + 1, v, v + 1, 2 * v, -v};
            for (int kind = 0; kind < 6; kind++) {
                x.flower(kind, 0);
            }
            for (int begin = 0; begin < 16; begin++) {
                x.set(1, 0, begin);
                for (int kind = 0; kind < 6; kind++) {
                    int angle = (begin + turns[kind] + 64) % 16;
                    due("kind " + kind + " turned " + v + " from " + begin, x.lay(kind), angle);
                    x.draw(0);
                }
            }
        }
    }

    private static void constants() {
        says("NONE is -1; NO .. -4611686018427387904; BAD (-2), STATE (-3), FULL (-4)");
        due("NONE", FortyStems.NONE, -1);
        due("BAD", FortyStems.BAD, -2);
        due("STATE", FortyStems.STATE, -3);
        due("FULL", FortyStems.FULL, -4);
        due("NO", FortyStems.NO, -4611686018427387904L);
    }

    private static void thickOfNumbers() {
        says("THICK: .. (THICK 1 at least)");
        int[] tulip = {1, 2, 2, 3, 3, 4, 4, 5, 5, 6};
        int[] poppy = {2, 2, 3, 3, 4, 4, 5, 5, 6, 6};
        FortyStems x = new FortyStems();
        for (int kind = 0; kind < 6; kind++) {
            x.flower(kind, 0);
        }
        for (int n = 0; n <= 9; n++) {
            int[] thick = {3, 3 + n, 1, tulip[n], 1, poppy[n]};
            for (int kind = 0; kind < 6; kind++) {
                x.set(2, kind, n);
                due("kind " + kind + " of " + n, x.told(kind, 6), thick[kind]);
            }
        }
    }

    private static void turnsOfKinds() {
        says("TURNS (turns telling v)");
        for (int v = -16; v <= 16; v += 4) {
            FortyStems x = ruled("" + v, "0", "0");
            int[] turns = {v, v + 1, v, v + 1, 2 * v, -v};
            for (int kind = 0; kind < 6; kind++) {
                x.flower(kind, 9);
                due("kind " + kind + " by " + v, x.told(kind, 7), turns[kind]);
            }
        }
    }

    private static void costsOfKinds() {
        says("COSTS (costs telling v); Quotients are cut toward 0; COSTS 0 at least, in the end");
        int[][] rows = {
            {0, 0, 0, 0, 0, 0, 0}, {1, 1, 2, 0, 0, 0, 1}, {4, 4, 8, 2, 0, 2, 4}, {5, 5, 10, 2, 1, 2, 5},
            {7, 7, 14, 3, 5, 3, 7}, {998, 998, 1996, 499, 1987, 499, 998},
            {999, 999, 1998, 499, 1989, 499, 999}};
        for (int[] row : rows) {
            FortyStems x = ruled("0", "" + row[0], "0");
            for (int kind = 0; kind < 6; kind++) {
                x.flower(kind, 9);
                due("kind " + kind + " by " + row[0], x.told(kind, 8), row[kind + 1]);
            }
            x.set(2, 3, 0);
            due("a TULIP of 0 by " + row[0], x.told(3, 8), 2 * row[0]);
        }
        FortyStems x = ruled("0", "4", "0");
        x.flower(3, 7);
        due("a TULIP of 7 by 4", x.told(0, 8), 1);
        x.set(2, 0, 8);
        due("a TULIP of 8 by 4", x.told(0, 8), 0);
    }

    private static void lastsOfKinds() {
        says("LASTS (lasts telling v)");
        int[][] rows = {{0, 0, 0, 0, 1, 9, 1}, {1, 1, 1, 2, 2, 11, 1}, {30, 30, 30, 60, 31, 69, 1}};
        for (int[] row : rows) {
            FortyStems x = ruled("0", "0", "" + row[0]);
            for (int kind = 0; kind < 6; kind++) {
                x.flower(kind, 9);
                due("kind " + kind + " by " + row[0], x.told(kind, 9), row[kind + 1]);
            }
            x.set(2, 4, 0);
            due("a FERN of 0 by " + row[0], x.told(4, 9), 2 * row[0]);
        }
    }

    /** A text of so many bytes, the last of which it can't do without. */
    private static String textOfSize(int size) {
        StringBuilder text = new StringBuilder("turns 1;costs 2;lasts 3");
        while (text.length() + 2 < size) {
            text.append("+1");
        }
        while (text.length() + 1 < size) {
            text.append(' ');
        }
        return text.append(';').toString();
    }

    private static void tapeOf160() {
        says("THE TAPE (160 bytes at most)");
        FortyStems x = new FortyStems();
        String text = textOfSize(160);
        for (int i = 0; i < 160; i++) {
            due("byte " + i, x.feed(text.charAt(i)), i + 1);
        }
        due("one more", x.feed(';'), FULL);
        due("160 stay", x.count(4), 160);
        due("all are read", x.text(), 1);
        x.force(1);
        x.flower(0, 0);
        due("to the last", x.told(0, 9), 30);
        due("of 161 the last is lost", textOf(x, textOfSize(161)), -260);
        due("empty", x.count(4), 0);
        due("from the front", x.feed(0), 1);
    }

    private static void bytesOfTokens() {
        says("TOKENS: WORDS (a .. z), NUMBERS, SIGNS ( ) ; + - * < = ; blanks (32, 10); a byte that begins none");
        for (int b = 0; b < 256; b++) {
            boolean between = b == '+' || b == '-' || b == '*' || b == '<' || b == '=';
            boolean digit = b >= '0' && b <= '9';
            boolean isBlank = b == 32 || b == 10;
            int due = between || digit ? 1 : isBlank || b == ';' ? -108 : -107;
            due("byte " + b + " between", textOf(new FortyStems(), "turns 1" + (char) b + "1;costs 1;lasts 1;"), due);
            int first = isBlank ? 1 : -100;
            due("byte " + b + " ahead", textOf(new FortyStems(), (char) b + "turns 1;costs 1;lasts 1;"), first);
            int last = isBlank ? 1 : -124;
            due("byte " + b + " behind", textOf(new FortyStems(), "turns 1;costs 1;lasts 1;" + (char) b), last);
        }
    }

    private static void longTokens() {
        says("TOKENS, each as long as can be");
        taken("turns1;costs2;lasts3;");
        taken("turns 1or 2and 3;costs not(1)and-2;lasts stem<angle or left=room;");
        taken("turns stem*colour+number-angle*left-room;costs((1));lasts--2;");
        fault("turnscosts 1;", 0);
        fault("turnsa 1;", 0);
        fault("turnsz 1;", 0);
        fault("aturns 1;", 0);
        fault("zturns 1;", 0);
        fault("turns roomz;", 6);
        fault("turns 1 orz 2;", 8);
        fault("turns notstem;", 6);
        fault("turns 1 orstem;", 8);
        fault("turns stemstem;", 6);
        fault("turns ste;", 6);
        fault("turns stem1;", 10);
        fault("turns 1stem;", 7);
    }

    private static void numbersOfFourDigits() {
        says("NUMBERS (as many digits as stand there, 4 at most); a NUMBER that is too long");
        taken("turns 0;costs 10;lasts 100;");
        taken("turns 9999;costs 0000;lasts 0009;");
        fault("turns 10000;", 6);
        fault("turns 00000;", 6);
        fault("turns 1;costs 2+12345;lasts 3;", 16);
        fault("turns -12345;", 7);
        fault("turns (12345);", 7);
        fault("turns not 12345;", 10);
        fault("turns 1 12345;", 8);
        fault("12345", 0);
        fault("turns 1234567890123456789012345678901234567890;", 6);
        fault("turns 1234 5;", 11);
        FortyStems x = ruled("0009", "0999", "0030");
        x.flower(0, 0);
        due("0009", x.told(0, 7), 9);
        due("0999", x.told(0, 8), 999);
        due("0030", x.told(0, 9), 30);
    }

    private static void blanks() {
        says("blanks (32, 10) may stand between");
        taken(" \n turns \n ( \n 1 \n ) \n ; \n costs - \n 2 \n ; \n lasts \n 3 < \n 4 \n ; \n ");
        fault("tur ns 1;", 0);
        fault("turns 1 0;", 8);
        fault("turns st em;", 6);
        fault("turns 1;\ncosts\t2;", 14);
        fault("turns 1;\r\ncosts 2;", 8);
    }

    private static void textThatEndsTooEarly() {
        says("the text's size, if it ends too early");
        String text = "turns 1;costs 2;lasts 3;";
        // a word that is cut is a word that is none; all else ends where the text does
        int[] place = {0, 0, 0, 0, 0, 5, 6, 7, 8, 8, 8, 8, 8, 13, 14, 15, 16, 16, 16, 16, 16, 21, 22, 23};
        for (int size = 0; size < text.length(); size++) {
            fault(text.substring(0, size), place[size]);
        }
        taken(text);
        String[] cut = {"turns (", "turns (1", "turns -", "turns not", "turns not 1", "turns 1+", "turns 1-",
            "turns 1*", "turns 1<", "turns 1=", "turns 1 and", "turns 1 or", "turns 1 ", "turns 1;\n", "  ", "\n"};
        for (String early : cut) {
            fault(early, early.length());
        }
    }

    private static void textThatGoesOn() {
        says("TEXT: turns E ; costs E ; lasts E ;");
        fault("turns 1;costs 2;lasts 3;;", 24);
        fault("turns 1;costs 2;lasts 3; turns 1;costs 2;lasts 3;", 25);
        fault("turns 1;lasts 2;costs 3;", 8);
        fault("costs 1;turns 2;lasts 3;", 0);
        fault("turns 1;turns 2;lasts 3;", 8);
        fault("turns 1;costs 2;costs 3;", 16);
        fault("turns 1 costs 2;lasts 3;", 8);
        fault("turns;costs 2;lasts 3;", 5);
        fault("turns 1;costs;lasts 3;", 13);
        fault("turns 1;costs 2;lasts;", 21);
        fault(";", 0);
        fault("1", 0);
        fault("stem", 0);
    }

    private static void grammarOfE() {
        says("FAULT: .. the first TOKEN that can't stand there");
        String[] ahead = {"", "(", "-", "not ", "1+", "1-", "1*", "1<", "1=", "1 and ", "1 or "};
        String[] neverAhead = {")", ";", "+", "*", "<", "=", "turns", "costs", "lasts", "or", "and"};
        for (String front : ahead) {
            for (String token : neverAhead) {
                fault("turns " + front + token + " 1;", 6 + front.length());
            }
        }
        String[] noNotBehind = {"-", "1+", "1-", "1*", "1<", "1="};
        for (String front : noNotBehind) {
            fault("turns " + front + "not 1;", 6 + front.length());
        }
        String[] neverBehind = {"(", "1", "stem", "not", "turns", "costs", "lasts", ")"};
        for (String token : neverBehind) {
            fault("turns 1 " + token, 8);
            fault("turns room " + token, 11);
        }
        fault("turns (1;", 8);
        fault("turns ((1);", 10);
        fault("turns (1));", 9);
        fault("turns 1<2<3;", 9);
        fault("turns 1<2=3;", 9);
        fault("turns 1=2<3;", 9);
        fault("turns not 1=2=3;", 13);
        taken("turns (1<2)<3;costs 1<(2=3);lasts not 1<2 and not not 3=4 or 5;");
    }

    private static void wordsThatAreNone() {
        says("a WORD that is neither KEY nor NAME");
        String[] none = {"a", "z", "stems", "color", "numbers", "angles", "lefts", "rooms", "nots", "turn", "x"};
        for (String word : none) {
            fault("turns " + word + ";", 6);
            fault("turns 1 " + word + ";", 8);
            fault("turns -" + word + " 1;", 7);
            fault("turns (" + word + " 1);", 7);
            fault("turns not " + word + " 1;", 10);
            fault("turns 1+" + word + " 1;", 8);
            fault(word, 0);
            fault(word + " turns 1;", 0);
        }
        String[] names = {"stem", "colour", "number", "angle", "left", "room"};
        for (String name : names) {
            taken("turns " + name + ";costs " + name + ";lasts " + name + ";");
        }
    }

    private static void leftmostFault() {
        says("FAULT: the place of the first byte of the first TOKEN");
        fault("turns ) 12345 ! bloom", 6);
        fault("turns 12345 ) !", 6);
        fault("turns ! )", 6);
        fault("turns bloom ! 12345", 6);
        fault("turns 1;costs 2 3;lasts !;", 16);
        fault("! ", 0);
    }

    private static void fiveOpen() {
        says("a ( , a not, a - ahead of a ONE while 5 of these are open");
        String[] open = {"(", "not ", "-"};
        String[] shut = {")", "", ""};
        for (int i = 0; i < 3; i++) {
            String five = open[i].repeat(5);
            taken("turns " + five + "1" + shut[i].repeat(5) + ";costs 0;lasts 0;");
            fault("turns " + five + open[i] + "1" + shut[i].repeat(6) + ";", 6 + five.length());
            taken("turns 0;costs 0;lasts " + five + "room" + shut[i].repeat(5) + ";");
        }
        for (int bits = 0; bits < 32; bits++) {
            StringBuilder five = new StringBuilder();
            StringBuilder end = new StringBuilder();
            for (int i = 0; i < 5; i++) {
                boolean round = (bits >> i & 1) != 0;
                five.append(round ? "(" : "-");
                end.append(round ? ")" : "");
            }
            taken("turns " + five + "1" + end + ";costs 0;lasts 0;");
            fault("turns " + five + "(1)" + end + ";", 11);
            fault("turns " + five + "-1" + end + ";", 11);
        }
        fault("turns (((((not 1)))));", 11);
        fault("turns not not not not not (1);", 26);
        fault("turns not not not not not -1;", 26);
        fault("turns not not not (-not 1);", 20);
        fault("turns not not (-(not 1));", 17);
        taken("turns not not (-(1));costs 0;lasts 0;");
        fault("turns not not (-(-1));", 17);
    }

    private static void openTillItsEnd() {
        says("a ( till its ) , not and - till what they belong to ends");
        taken("turns (((((1)))))+(((((1)))))*(((((1)))));costs 0;lasts 0;");
        taken("turns -----1*-----1+-----1<-----1;costs 0;lasts 0;");
        taken("turns 1------1;costs -1--1;lasts 0;");
        taken("turns not not not not not 1 and not not not not not 1;costs 0;lasts 0;");
        taken("turns not not not not not 1 or not not not not not 1;costs 0;lasts 0;");
        taken("turns not((((1))))and(((((1)))));costs 0;lasts 0;");
        taken("turns (((((1)))));costs (((((1)))));lasts -----1;");
        // not is open till its SUM, also the one behind < or =, ends; the - only till its ONE does
        fault("turns not 1+(((((1)))));", 16);
        fault("turns not 1<(((((1)))));", 16);
        fault("turns not 1=-----1;", 16);
        fault("turns not not not not not 1*(1);", 28);
        taken("turns -1*(((((1)))));costs 0;lasts 0;");
        taken("turns -1+-----1<(((((1)))));costs 0;lasts 0;");
        fault("turns (1+(((((1))))));", 13);
        taken("turns (1)+(((((1)))));costs 0;lasts 0;");
        fault("turns -(1*-----1);", 13);
        taken("turns -(1*---1);costs 0;lasts 0;");
    }

    /** What costs tells of a FLOWER, within 0 .. 999. */
    private static void value(String e, int want) {
        FortyStems x = ruled("0", e, "0");
        x.flower(0, 0);
        due("value of " + e, x.told(0, 8), want);
    }

    private static void wrappingInts() {
        says("An E is an int (32 bits, wrapping)");
        String top = "1024*1024*1024*2";
        value(top + "<0", 1);
        value(top + "-1<0", 0);
        value(top + "-1+1<0", 1);
        value("-(" + top + ")<0", 1);
        value("1024*1024*1024*4=0", 1);
        value("1024*1024*1024*4+7", 7);
        value(top + "*2+" + top + "*2", 0);
        value("-(" + top + "-1)-2=" + top + "-1", 1);
        // 9999 ^ 4 is 9996000599960001, of which 32 bits are 1089432001
        value("9999*9999*9999*9999-1089*1000*1000-432*1000", 1);
        // what is less is not seen by a difference that wraps
        value(top + "<" + top + "-1", 1);
        value(top + "-1<" + top, 0);
        value("(" + top + ")<1", 1);
        value("1<(" + top + ")", 0);
    }

    private static void trueAndFalse() {
        says("of or, and, not, <, = 1 or 0 (what is not 0 is true)");
        int[] some = {-5, -1, 0, 1, 5};
        for (int a : some) {
            value("not " + a, a == 0 ? 1 : 0);
            value("not not " + a, a == 0 ? 0 : 1);
            for (int b : some) {
                value(a + " or " + b, a == 0 && b == 0 ? 0 : 1);
                value(a + " and " + b, a == 0 || b == 0 ? 0 : 1);
                value(a + "<" + b, a < b ? 1 : 0);
                value(a + "=" + b, a == b ? 1 : 0);
            }
        }
        value("5", 5);
        value("(5 or 0)+(7 and 9)+(not 0)+(1<2)+(3=3)", 5);
    }

    private static void sixTexts() {
        says("There are 6 TEXTS at most, TEXT 0 with them");
        FortyStems x = new FortyStems();
        x.flower(0, 0);
        due("one at first", x.count(3), 1);
        for (int i = 1; i <= 5; i++) {
            due("one more", textOf(x, text("" + i, "" + 10 * i, "" + 2 * i)), i);
            due("so many", x.count(3), i + 1);
        }
        String text = "turns 9;";
        feedAll(x, text);
        due("a seventh", x.text(), FULL);
        due("six stay", x.count(3), 6);
        due("none such", x.force(6), BAD);
        for (int i = 5; i >= 0; i--) {
            due("the one ahead", x.force(i), i == 5 ? 0 : i + 1);
            due("turns", x.told(0, 7), i == 0 ? 3 : i);
            due("costs", x.told(0, 8), i == 0 ? 10 : 10 * i);
            due("lasts", x.told(0, 9), i == 0 ? 5 : 2 * i);
        }
    }

    private static void nameStem() {
        says("stem: how many STEMS are laid");
        FortyStems x = ruled("0", "stem", "0");
        x.flower(0, 0);
        x.set(4, 0, 40);
        for (int i = 0; i <= FORTY; i++) {
            due("of " + i, x.told(0, 8), i);
            x.lay(0);
        }
        x.draw(3);
        due("one is drawn", x.told(0, 8), 39);
    }

    private static void nameColour() {
        says("colour: COLOUR");
        FortyStems x = ruled("0", "colour", "0");
        x.flower(0, 0);
        for (int c = 0; c <= 4; c++) {
            x.set(3, 0, c);
            due("of " + c, x.told(0, 8), c);
        }
    }

    private static void nameNumber() {
        says("number: NUMBER");
        FortyStems x = ruled("0", "number", "0");
        x.flower(0, 9);
        due("of 9", x.told(0, 8), 9);
        x.set(2, 0, 0);
        due("of 0", x.told(0, 8), 0);
    }

    private static void nameAngle() {
        says("angle: of the STEM laid last (BEGIN, if there is none)");
        FortyStems x = ruled("left", "angle", "0");
        x.flower(0, 0);
        x.set(1, 0, 15);
        due("begin", x.told(0, 8), 15);
        for (int a = 0; a < 16; a++) {
            layAt(x, 0, a);
            due("of the last", x.told(0, 8), a);
        }
        x.draw(15);
        due("of the last there is", x.told(0, 8), 14);
        for (int i = 0; i < 15; i++) {
            x.draw(0);
        }
        due("begin again", x.told(0, 8), 15);
    }

    private static void nameLeft() {
        says("left: how many are in the BUCKET");
        FortyStems x = ruled("0", "left", "0");
        x.flower(0, 0);
        due("10", x.told(0, 8), 10);
        x.set(4, 0, 40);
        due("40", x.told(0, 8), 40);
        x.set(4, 0, 1);
        x.lay(0);
        due("0", x.told(0, 8), 0);
    }

    private static void nameRoom() {
        says("room: HAND less what is THICK of all STEMS, together");
        FortyStems x = ruled("0", "room", "-room");
        x.flower(1, 0);
        due("200", x.told(0, 8), 400);
        x.set(0, 0, 0);
        due("0", x.told(0, 8), 0);
        x.set(0, 0, 400);
        due("400", x.told(0, 8), 800);
        x.lay(0);
        x.lay(0);
        due("394", x.told(0, 8), 788);
        x.set(0, 0, 6);
        due("none", x.told(0, 8), 0);
        due("nor below", x.told(0, 9), 0);
        x.set(0, 0, 0);
        due("6 below 0", x.told(0, 9), 6);
        x.set(2, 0, 9);
        due("24 below 0, as thick as it is now", x.told(0, 9), 24);
        due("as of bunch()", x.bunch(3), -24);
    }

    /** The value of part 7, 8 or 9 of told(), by a text of which all three are e. */
    private static void boundIs(int part, String e, int want) {
        FortyStems x = ruled(e, e, e);
        x.flower(0, 0);
        due("by " + e, x.told(0, part), want);
    }

    private static void boundsOf(int part, int least, int most) {
        boundIs(part, "" + least, least);
        boundIs(part, "" + (least - 1), least);
        boundIs(part, "" + (least + 1), least + 1);
        boundIs(part, "" + most, most);
        boundIs(part, "" + (most - 1), most - 1);
        boundIs(part, "" + (most + 1), most);
        boundIs(part, "1024*1024*1024*2", least);
        boundIs(part, "1024*1024*1024*2-1", most);
    }

    private static void boundsOfTurns() {
        says("turns (-16 .. 16, else the bound)");
        boundsOf(7, -16, 16);
    }

    private static void boundsOfCosts() {
        says("costs (0 .. 999, else the bound)");
        boundsOf(8, 0, 999);
    }

    private static void boundsOfLasts() {
        says("lasts (0 .. 30, else the bound)");
        boundsOf(9, 0, 30);
    }

    private static void textZero() {
        says("TEXT 0, at first THE RULE, is: turns 3 ; costs 10 ; lasts 5 ;");
        FortyStems x = new FortyStems();
        x.flower(0, 0);
        due("the rule", x.count(5), 0);
        due("turns", x.told(0, 7), 3);
        due("costs", x.told(0, 8), 10);
        due("lasts", x.told(0, 9), 5);
        due("its own rule again", x.force(0), 0);
    }

    private static void toLay() {
        says("TO LAY a FLOWER: .. the ANGLE of the one laid last (BEGIN) and TURNS (told ahead)");
        FortyStems x = ruled("left+stem*2+angle+room", "0", "0");
        x.flower(0, 0);
        x.set(0, 0, 6);
        x.set(1, 0, 13);
        x.set(4, 0, 2);
        // 2 + 0 + 13 + 6 is 21, so 16: round to 13 again; then 1 + 2 + 13 + 3 is 19, so 16 again
        due("from begin", x.lay(0), 13);
        due("is out of the bucket", x.told(0, 4), 1);
        due("from the last", x.lay(0), 13);
        FortyStems y = ruled("left-10-stem+(room<200)", "0", "0");
        y.flower(0, 0);
        due("told with ten in the bucket, none laid, all room", y.lay(0), 0);
        due("told with nine, one laid, less room", y.lay(0), 15);
        due("told with eight, two laid", y.lay(0), 12);
        laidBy("angle", 2, 4, 8, 0, 0);
        laidBy("stem", 1, 2, 4, 7, 11);
        laidBy("left", 6, 10, 13, 15, 0, STATE);
        laidBy("room", 17 % 16, 30 % 16, 40 % 16, 47 % 16, 51 % 16, FULL);
    }

    /** Laid from 1 on, with room for five and one more in THICK; five are in the bucket, or enough. */
    private static void laidBy(String turns, int... angles) {
        FortyStems x = ruled(turns, "0", "0");
        x.flower(0, 0);
        x.set(0, 0, 16);
        x.set(1, 0, 1);
        x.set(4, 0, turns.equals("room") ? 40 : 5);
        for (int angle : angles) {
            due("by " + turns, x.lay(0), angle);
        }
    }

    /** How many of FLOWER 0 go in, as each call that lays in thought or truly sees it. */
    private static void goesIn(FortyStems x, boolean can, int refusal) {
        int stems = x.count(1);
        int touching = x.bunch(0);
        int then = can ? touching + stems : touching;
        fill(x, 0, 0, 0);
        due("next", x.next(0), can ? 0 : NONE);
        due("touching by next", x.next(1), then);
        due("how many", x.howMany(0) > 0 ? 1 : 0, can ? 1 : 0);
        due("touching by order", x.order(0, 0), then);
        due("touching drawn", x.drawn(5, 1), then);
        due("above the line", x.chance(5, 1, Math.max(0, then - 1), 0) == 1 ? 1 : 0, then == 0 ? 1 : 0);
        due("lay", x.lay(0), can ? 0 : refusal);
        due("stems", x.count(1), can ? stems + 1 : stems);
    }

    private static void oneInTheBucket() {
        says("It CAN BE, if one is in the BUCKET");
        FortyStems x = ruled("0", "0", "0");
        x.flower(0, 0);
        x.lay(0);
        x.set(4, 0, 1);
        goesIn(x, true, STATE);
        goesIn(x, false, STATE);
    }

    private static void fewerThanForty() {
        says("It CAN BE, if .. fewer than 40 are laid");
        FortyStems x = ruled("0", "0", "0");
        x.flower(0, 0);
        x.set(4, 0, 40);
        for (int i = 0; i < 38; i++) {
            x.lay(0);
        }
        // one in the bucket each time, so that a chance() of 20 lays no more than one
        x.set(4, 0, 1);
        goesIn(x, true, FULL);
        x.set(4, 0, 1);
        due("one goes in", x.howMany(0), 1);
        goesIn(x, true, FULL);
        x.set(4, 0, 1);
        goesIn(x, false, FULL);
    }

    private static void noMoreThickThanRoom() {
        says("It CAN BE, if .. it is no more THICK than there is room");
        int[] thick = {3, 12, 1, 6, 1, 6};
        for (int kind = 0; kind < 6; kind++) {
            FortyStems x = ruled(kind == 1 || kind == 3 ? "-1" : "0", "0", "0");
            x.flower(kind, 9);
            x.set(0, 0, 2 * thick[kind] - 1);
            goesIn(x, true, FULL);
            goesIn(x, false, FULL);
            x.set(0, 0, 2 * thick[kind]);
            goesIn(x, true, FULL);
            goesIn(x, false, FULL);
            x.set(0, 0, 0);
            goesIn(x, false, FULL);
        }
    }

    private static void apart() {
        says("TOUCHING: .. whose ANGLES are 0 or 1 apart, the shorter way round");
        for (int a = 0; a < 16; a++) {
            for (int b = 0; b < 16; b++) {
                FortyStems x = ruled("left", "0", "0");
                x.flower(0, 0);
                layAt(x, 0, a);
                layAt(x, 0, b);
                int d = Math.abs(a - b);
                boolean touch = d == 0 || d == 1 || d == 15;
                due(a + " and " + b, x.bunch(0), touch ? 1 : 0);
                due("worst of " + a + " and " + b, x.worst(0), touch ? 0 : NONE);
            }
        }
    }

    private static void oneColour() {
        says("TOUCHING: pairs of STEMS of one COLOUR");
        FortyStems x = ruled("0", "0", "0");
        x.flower(0, 0);
        x.flower(2, 0);
        due("of none", x.bunch(0), 0);
        x.lay(0);
        due("of one", x.bunch(0), 0);
        x.lay(1);
        for (int a = 0; a <= 4; a++) {
            for (int b = 0; b <= 4; b++) {
                x.set(3, 0, a);
                x.set(3, 1, b);
                due("colours " + a + " and " + b, x.bunch(0), a == b ? 1 : 0);
            }
        }
        x.set(4, 0, 40);
        x.set(3, 0, 4);
        x.set(3, 1, 4);
        for (int i = 2; i < FORTY; i++) {
            x.lay(0);
        }
        due("of forty at one angle", x.bunch(0), 780);
        due("without one", x.worst(1), 741);
    }

    private static void quarters() {
        says("QUARTERS 0 .. 3: ANGLE by 4 (cut)");
        for (int a = 0; a < 16; a++) {
            FortyStems x = ruled("left", "0", "0");
            x.flower(0, 0);
            layAt(x, 0, a);
            for (int q = 0; q < 4; q++) {
                due("angle " + a + " in " + q, x.bunch(4 + q), a >= 4 * q && a < 4 * q + 4 ? 1 : 0);
            }
        }
    }

    private static void even() {
        says("EVEN: the most STEMS of any QUARTER less the fewest");
        FortyStems x = ruled("left", "0", "0");
        x.flower(0, 0);
        int[] angles = {0, 15, 4, 11, 3};
        int[] due = {1, 1, 1, 0, 1};
        due("of none", x.bunch(1), 0);
        for (int i = 0; i < 5; i++) {
            layAt(x, 0, angles[i]);
            due("of " + (i + 1), x.bunch(1), due[i]);
        }
        FortyStems y = ruled("0", "0", "0");
        y.flower(0, 0);
        y.set(4, 0, 40);
        for (int i = 0; i < FORTY; i++) {
            y.lay(0);
        }
        due("forty in one", y.bunch(1), 40);
    }

    private static void cost() {
        says("COST: COSTS of the FLOWER of each STEM, together (told as all is now)");
        FortyStems x = ruled("0", "999", "0");
        x.flower(1, 0);
        due("of none", x.bunch(2), 0);
        x.set(4, 0, 40);
        for (int i = 0; i < FORTY; i++) {
            x.lay(0);
        }
        due("of forty of the dearest", x.bunch(2), 40 * 1998);
        FortyStems y = ruled("0", "left*10+stem", "0");
        y.flower(0, 0);
        y.flower(0, 0);
        y.lay(0);
        y.lay(0);
        y.lay(1);
        // 8 * 10 + 3, twice, and 9 * 10 + 3
        due("as all is now", y.bunch(2), 83 + 83 + 93);
    }

    private static void goodOnADay() {
        says("GOOD on a DAY d (0 .. 99): STEMS whose FLOWER LASTS d or longer");
        int[] lasts = {30, 30, 60, 31, 69, 1};
        FortyStems none = new FortyStems();
        due("of none", none.good(0), 0);
        for (int kind = 0; kind < 6; kind++) {
            FortyStems x = ruled("0", "0", "30");
            x.flower(kind, 9);
            x.lay(0);
            for (int d = 0; d <= 99; d++) {
                due("kind " + kind + " on day " + d, x.good(d), d <= lasts[kind] ? 1 : 0);
            }
            due("day -1", x.good(-1), BAD);
            due("day 100", x.good(100), BAD);
        }
        FortyStems y = ruled("0", "0", "left");
        y.flower(0, 0);
        y.set(4, 0, 2);
        y.lay(0);
        y.lay(0);
        due("lasts 0, day 0", y.good(0), 2);
        due("lasts 0, day 1", y.good(1), 0);
        y.set(4, 0, 1);
        due("as all is now", y.good(1), 2);
    }

    private static void toDrawOut() {
        says("TO DRAW OUT a STEM: .. those behind are one number less, their ANGLES stay; (40 at most)");
        for (int out = 0; out < FORTY; out += 13) {
            FortyStems x = new FortyStems();
            for (int f = 0; f < 6; f++) {
                x.flower(0, 0);
            }
            for (int i = 0; i < FORTY; i++) {
                x.lay(i % 6);
            }
            int inBucket = x.told(out % 6, 4);
            due("draw " + out, x.draw(out), out % 6);
            due("in the bucket", x.told(out % 6, 4), inBucket + 1);
            for (int i = 0; i < FORTY - 1; i++) {
                int was = i < out ? i : i + 1;
                due("flower of " + i, x.stem(i, 0), was % 6);
                due("angle of " + i, x.stem(i, 1), 3 * (was + 1) % 16);
            }
            due("39 are left", x.stem(39, 0), BAD);
            due("draw 39", x.draw(39), BAD);
        }
        FortyStems y = new FortyStems();
        y.flower(0, 0);
        for (int i = 0; i < 3; i++) {
            y.lay(0);
        }
        y.set(4, 0, 38);
        int[] then = {39, 40, 40};
        for (int i = 0; i < 3; i++) {
            due("draw the first", y.draw(0), 0);
            due("in the bucket then", y.told(0, 4), then[i]);
        }
        due("none is left", y.draw(0), BAD);
    }

    private static void nextOne() {
        says("NEXT: .. TOUCHING would be fewest; of like ones the first; NONE");
        FortyStems x = ruled("number", "0", "0");
        due("no flowers", x.next(0), NONE);
        due("none touch", x.next(1), 0);
        int[] numbers = {1, 0, 2, 8, 8, 7};
        for (int n : numbers) {
            x.flower(0, n);
        }
        due("all alike", x.next(0), 0);
        x.lay(1);
        // at 0 lies one: 1 and 0 touch it, 2, 8, 8, 7 do not
        due("the first that does not touch", x.next(0), 2);
        due("none touch then", x.next(1), 0);
        for (int f = 0; f < 6; f++) {
            x.set(4, f, f < 2 ? 1 : 0);
        }
        due("of two that touch", x.next(0), 0);
        due("a pair", x.next(1), 1);
        x.set(4, 0, 0);
        due("the one that is left", x.next(0), 1);
        x.set(4, 1, 0);
        due("none is left", x.next(0), NONE);
        due("as now", x.next(1), 0);
        x.set(4, 1, 1);
        x.lay(1);
        due("none again", x.next(0), NONE);
        due("as now again", x.next(1), 1);
    }

    private static void howManyGoIn() {
        says("HOW MANY (a FLOWER): so many of it, laid one behind the other, CAN BE");
        FortyStems x = new FortyStems();
        x.flower(2, 0);
        x.set(4, 0, 0);
        due("none in the bucket", x.howMany(0), 0);
        x.set(4, 0, 1);
        due("one", x.howMany(0), 1);
        x.set(4, 0, 39);
        due("39", x.howMany(0), 39);
        x.set(4, 0, 40);
        due("40", x.howMany(0), 40);
        x.set(0, 0, 39);
        due("room for 39", x.howMany(0), 39);
        x.set(0, 0, 1);
        due("room for one", x.howMany(0), 1);
        x.set(0, 0, 0);
        due("no room", x.howMany(0), 0);
        x.set(0, 0, 400);
        for (int i = 0; i < FORTY; i++) {
            x.set(4, 0, 40);
            due("behind " + i, x.howMany(0), 40 - i);
            x.lay(0);
        }
        x.set(4, 0, 40);
        due("behind forty", x.howMany(0), 0);
    }

    private static void bestOrder() {
        says("ORDER: of some FLOWERS that a SHEET tells (1 .. 6 numbers, each a FLOWER, also one more often)");
        FortyStems x = ruled("0", "0", "0");
        x.flower(0, 0);
        x.flower(0, 0);
        x.set(3, 1, 1);
        fill(x, 0, 0);
        due("of none", x.order(0, 0), BAD);
        int[] touching = {0, 1, 3, 6, 10, 15};
        int digits = 0;
        for (int n = 1; n <= 6; n++) {
            x.sheet(0, n % 3, n);
            digits = digits * 10 + n;
            due("of " + n, x.order(0, 0), touching[n - 1]);
            due("digits of " + n, x.order(0, 1), digits);
            x.cell(0, n - 1, 1);
            due("of another colour", x.order(0, 0), n == 1 ? 0 : touching[n - 2]);
            x.cell(0, n - 1, 2);
            due("none such", x.order(0, 0), BAD);
            x.cell(0, n - 1, -1);
            due("none such below", x.order(0, 1), BAD);
        }
        x.sheet(0, 0, 7);
        due("of 7", x.order(0, 0), BAD);
        x.sheet(0, 0, 40);
        due("of 40", x.order(0, 1), BAD);
    }

    private static void ofLikeOrders() {
        says("ORDER: .. TOUCHING at last is fewest; of like ones the first (by the places of the SHEET)");
        FortyStems x = ruled("number", "0", "0");
        int[] numbers = {0, 1, 2, 8, 9, 5};
        for (int n : numbers) {
            x.flower(0, n);
        }
        // from 0: 0 touches at once, 2 does not
        x.lay(0);
        fill(x, 0, 2, 0, 2);
        // 0 2: at 0 and at 2 (touches one pair); 2 0: at 2 and 2 (one pair)
        due("like ones", x.order(0, 0), 1);
        due("the first", x.order(0, 1), 12);
        fill(x, 0, 2, 3, 4, 2);
        // 8 17 19: at 8, 1, 3: 1 touches 0; 9 2: at 8, 10, 3; the first by which none touch
        due("none touch", x.order(0, 0), 0);
        due("not the first of all", x.order(0, 1), 132);
        fill(x, 0, 2, 2, 2, 2, 2, 2, 2);
        due("all of one", x.order(0, 0), 0);
        due("so by the places", x.order(0, 1), 123456);
        fill(x, 0, 2, 0, 0, 0, 0, 0, 3);
        // of seven, three or four at 0 and the others at 8: 3 and 6 pairs
        due("half of them ahead", x.order(0, 0), 9);
        due("four and three come first", x.order(0, 1), 123645);
    }

    private static void laidInThought() {
        says("laid .. one behind the other, behind the STEMS there are");
        String[] rules = {"left", "room", "stem", "angle"};
        for (int r = 0; r < 4; r++) {
            FortyStems x = ruled(rules[r] + "+1", "0", "0");
            x.flower(0, 0);
            x.set(0, 0, 40);
            x.set(1, 0, 1);
            x.lay(0);
            x.lay(0);
            fill(x, 0, 0, 0, 0, 0, 0, 0, 0);
            int ordered = x.order(0, 0);
            int drawn = x.drawn(9, 6);
            int next = x.next(1);
            due("one by next, by " + rules[r], x.lay(0) >= 0 ? x.bunch(0) : BAD, next);
            for (int i = 1; i < 6; i++) {
                x.lay(0);
            }
            due("six by order, by " + rules[r], ordered, x.bunch(0));
            due("six drawn, by " + rules[r], drawn, x.bunch(0));
        }
    }

    private static void leftOutOfAnOrder() {
        says("ORDER: .. (those that CAN not BE then are left out)");
        FortyStems x = ruled("0", "0", "0");
        x.flower(0, 0);
        x.flower(1, 9);
        x.set(3, 1, 1);
        x.set(0, 0, 12);
        fill(x, 0, 0, 0, 0, 1);
        // a ROSE of 9 fills the hand, so nothing touches when it goes first
        due("none touch", x.order(0, 0), 0);
        due("the rose first", x.order(0, 1), 312);
        x.set(4, 0, 1);
        due("one in the bucket", x.order(0, 0), 0);
        due("the first of all", x.order(0, 1), 123);
        x.set(0, 0, 0);
        due("no room", x.order(0, 1), 123);
    }

    private static void forSoMuch() {
        says("FOR k (0 .. 9999): the most STEMS .. whose COSTS, together, are no more than k");
        FortyStems none = new FortyStems();
        due("no flowers", none.forMoney(9999), 0);
        FortyStems x = ruled("0", "number*111", "0");
        x.flower(0, 9);
        x.set(4, 0, 40);
        due("999 for 0", x.forMoney(0), 0);
        due("999 for 998", x.forMoney(998), 0);
        due("999 for 999", x.forMoney(999), 1);
        due("999 for 1997", x.forMoney(1997), 1);
        due("999 for 1998", x.forMoney(1998), 2);
        due("999 for 9989", x.forMoney(9989), 9);
        due("999 for 9990", x.forMoney(9990), 10);
        due("999 for 9999", x.forMoney(9999), 10);
        x.flower(0, 1);
        due("the cheap ones first", x.forMoney(1110), 10);
        due("and one dear", x.forMoney(2109), 11);
        due("but not for 1 less", x.forMoney(2108), 10);
        x.set(4, 1, 0);
        due("none in that bucket", x.forMoney(1110), 1);
        FortyStems one = ruled("0", "1", "0");
        one.flower(0, 0);
        due("1 for 0", one.forMoney(0), 0);
        due("1 for 1", one.forMoney(1), 1);
        due("1 for 9", one.forMoney(9), 9);
        due("1 for 11", one.forMoney(11), 10);
        FortyStems y = ruled("0", "0", "0");
        for (int f = 0; f < 6; f++) {
            y.flower(0, 0);
            y.set(4, f, 40);
        }
        y.set(0, 0, 0);
        due("all for nothing, without room", y.forMoney(0), 240);
        FortyStems z = ruled("0", "left", "0");
        z.flower(0, 0);
        z.set(4, 0, 40);
        due("told as all is now", z.forMoney(79), 1);
        due("twice", z.forMoney(80), 2);
    }

    private static void worstStem() {
        says("WORST: .. TOUCHING would be fewest, if fewer than now; of like ones the first; NONE");
        FortyStems x = ruled("left", "0", "0");
        x.flower(0, 0);
        due("no stems", x.worst(0), NONE);
        due("as now", x.worst(1), 0);
        layAt(x, 0, 0);
        due("one stem", x.worst(0), NONE);
        layAt(x, 0, 2);
        due("2 apart", x.worst(0), NONE);
        due("as now, none", x.worst(1), 0);
        layAt(x, 0, 9);
        layAt(x, 0, 10);
        due("the first of two", x.worst(0), 2);
        due("none then", x.worst(1), 0);
        layAt(x, 0, 1);
        due("the one between of two pairs", x.worst(0), 4);
        due("one then", x.worst(1), 1);
        layAt(x, 0, 8);
        due("the first of like ones", x.worst(0), 2);
        due("two then", x.worst(1), 2);
        layAt(x, 0, 15);
        // 0 2 9 10 1 8 15: 0 touches 1 and 15
        due("also round", x.worst(0), 0);
        due("three then", x.worst(1), 3);
    }

    private static void toldTwenty() {
        says("TOLD: a SHEET tells ANGLES (20 at most): the first number that is otherwise; NONE");
        FortyStems x = new FortyStems();
        x.flower(0, 0);
        x.lay(0);
        x.set(1, 0, 14);
        x.sheet(0, 0, 0);
        due("of none", x.tells(0, 0, 0), NONE);
        for (int n = 1; n <= 20; n++) {
            int[] angles = new int[n];
            for (int i = 0; i < n; i++) {
                angles[i] = (14 + 3 * (i + 1)) % 16;
            }
            fill(x, 0, n % 3, angles);
            due("of " + n, x.tells(0, 0, 0), NONE);
            x.cell(0, n - 1, angles[n - 1] + 1);
            due("the last", x.tells(0, 0, 0), n - 1);
        }
        x.cell(0, 0, 2);
        due("the first", x.tells(0, 0, 0), 0);
        x.sheet(0, 2, 21);
        due("of 21", x.tells(0, 0, 0), BAD);
        x.sheet(0, 2, 40);
        due("of 40", x.tells(0, 0, 5), BAD);
        int[] like = {1 + 16, 1 - 16, 1 + 256, LOW + 1, HIGH};
        for (int v : like) {
            fill(x, 0, 2, v);
            due("no angle " + v, x.tells(0, 0, 0), 0);
            due("no begin for " + v, x.tells(0, 0, 4), 0);
        }
    }

    private static void bitsAre(FortyStems x, int what, int angle, int want) {
        fill(x, 0, 2, angle);
        due("what " + what + " by " + angle, x.tells(0, 0, what), want);
    }

    private static void toldBits() {
        says("KINDS (bits 0 .. 5), NUMBERS (bits 0 .. 9), COLOURS (bits 0 .. 4), BEGINS (bits 0 .. 15), TEXTS (bits)");
        FortyStems x = new FortyStems();
        x.flower(0, 0);
        x.sheet(0, 0, 0);
        int[] all = {NONE, 63, 1023, 31, 65535, 1};
        for (int what = 0; what <= 5; what++) {
            due("of none, what " + what, x.tells(0, 0, what), all[what]);
        }
        int[] kinds = {0, 0, 0, 5, 10, 0, 16, 0, 0, 0, 0, 0, 0, 32, 0, 0};
        for (int a = 0; a < 16; a++) {
            bitsAre(x, 1, a, kinds[a]);
            bitsAre(x, 4, a, 1 << (a + 13) % 16);
        }
        int[] turns = {0, 1, 2, 4, 5};
        for (int i = 0; i < 5; i++) {
            due("text", textOf(x, text(turns[i] + "", "0", "0")), i + 1);
        }
        int[] texts = {2, 4, 8, 1, 16, 32, 0};
        for (int a = 0; a < 7; a++) {
            bitsAre(x, 5, a, texts[a]);
        }
        x.sheet(0, 0, 0);
        due("of none, all texts", x.tells(0, 0, 5), 63);
        FortyStems y = ruled("number", "0", "0");
        FortyStems z = ruled("colour", "0", "0");
        y.flower(0, 3);
        z.flower(0, 3);
        for (int a = 0; a < 16; a++) {
            bitsAre(y, 2, a, a <= 9 ? 1 << a : 0);
            bitsAre(z, 3, a, a <= 4 ? 1 << a : 0);
        }
        due("its number stays", y.told(0, 2), 3);
        due("its colour stays", z.told(0, 3), 0);
        due("the rule stays", x.count(5), 0);
        due("begin stays", x.told(0, 1), 0);
        due("its kind stays", x.told(0, 5), 0);
    }

    private static void toldBelowZero() {
        says("TOLD: .. what is in the BUCKET, the room is as by then, below 0, too");
        String[] rules = {"left", "room", "stem", "angle"};
        for (int r = 0; r < 4; r++) {
            FortyStems x = ruled(rules[r], "0", "0");
            x.flower(0, 0);
            x.lay(0);
            x.set(4, 0, 2);
            x.set(0, 0, 5);
            x.set(1, 0, 1);
            int[] angles = new int[20];
            int angle = 1;
            for (int i = 0; i < 20; i++) {
                int[] v = {2 - i, 5 - 3 * i, i, angle};
                angle = (angle + Math.max(-16, Math.min(16, v[r])) + 16) % 16;
                angles[i] = angle;
            }
            fill(x, 0, 2, angles);
            due("by " + rules[r], x.tells(0, 0, 0), NONE);
            due("begins by " + rules[r], x.tells(0, 0, 4) >> 1 & 1, 1);
            due("film", x.film(1, 0, 20), 20);
            due("film tells so", x.tells(1, 0, 0), NONE);
            x.sheet(2, 0, 20);
            for (int i = 0; i < 20; i++) {
                x.cell(2, i, angles[i]);
            }
            due("as bytes", x.tells(2, 0, 0), NONE);
        }
        FortyStems y = ruled("room", "0", "0");
        y.flower(1, 0);
        y.set(0, 0, 10);
        // room 10, 10 - THICK: as a ROSE of n it turns 11, then 10 - (3 + n) + 1
        int[] second = {(11 + 8) % 16};
        fill(y, 0, 0, 11, second[0]);
        due("THICK of a NUMBER that is thought", y.tells(0, 0, 2), 1);
        fill(y, 0, 0, 11, (11 + 8 - 9 + 16) % 16);
        due("THICK of NUMBER 9", y.tells(0, 0, 2), 512);
        fill(y, 0, 0, 10, 10 + 9 - 16);
        due("THICK of a KIND that is thought", y.tells(0, 0, 1), 4);
    }

    /** Touching of n drawn, all of colours of their own at one angle, ten of each. */
    private static int pairsDrawn(int seed, int n, int flowers) {
        int z = seed;
        int[] laid = new int[6];
        for (int i = 0; i < n; i++) {
            z = z * 1103515245 + 12345;
            int f = (z >>> 9) % flowers;
            laid[f] = Math.min(10, laid[f] + 1);
        }
        int pairs = 0;
        for (int f = 0; f < 5; f++) {
            // FLOWER 5 has the colour of FLOWER 0
            int many = f == 0 ? laid[0] + laid[5] : laid[f];
            pairs += many * (many - 1) / 2;
        }
        return pairs;
    }

    private static void drawnBySeed() {
        says("DRAWN by a SEED: n times (0 .. 40) the FLOWER (z >>> 9) % (how many there are)");
        int[] seeds = {0, 1, -1, LOW, HIGH, 12345, -1103515245};
        FortyStems x = ruled("0", "0", "0");
        for (int flowers = 1; flowers <= 6; flowers++) {
            x.flower(0, 0);
            x.set(3, flowers - 1, (flowers - 1) % 5);
            for (int seed : seeds) {
                due("n 0", x.drawn(seed, 0), 0);
                due("n 1", x.drawn(seed, 1), 0);
                due("n 39 of " + flowers + " by " + seed, x.drawn(seed, 39), pairsDrawn(seed, 39, flowers));
                due("n 40 of " + flowers + " by " + seed, x.drawn(seed, 40), pairsDrawn(seed, 40, flowers));
            }
            due("n 41", x.drawn(0, 41), BAD);
            due("n -1", x.drawn(0, -1), BAD);
        }
    }

    private static void inSeeds() {
        says("IN m seeds (1 .. 20), SEED and each 1 more (an int), n 20: those by which it is k (0 .. 999) or fewer");
        FortyStems x = ruled("0", "0", "0");
        for (int f = 0; f < 3; f++) {
            x.flower(0, 0);
            x.set(3, f, f);
        }
        for (int m = 1; m <= 20; m++) {
            int seed = HIGH - 7;
            int k = pairsDrawn(seed, 20, 3);
            int few = 0;
            for (int i = 0; i < m; i++) {
                if (pairsDrawn(seed + i, 20, 3) <= k) {
                    few++;
                }
            }
            long above = x.chance(seed, m, k, 0);
            long below = x.chance(seed, m, k, 1);
            due("as many as " + few + " in " + m, above * m, few * below);
            for (int d = 2; d <= 20; d++) {
                due("both by " + d, above % d == 0 && below % d == 0 ? 1 : 0, 0);
            }
        }
        int k = pairsDrawn(HIGH, 20, 3);
        due("k itself", x.chance(HIGH, 1, k, 0), 1);
        due("one fewer", x.chance(HIGH, 1, k - 1, 0), 0);
        due("none, below the line", x.chance(HIGH, 20, 0, 1), 1);
        due("none, above", x.chance(HIGH, 20, 0, 0), 0);
        due("all, above", x.chance(HIGH, 20, 999, 0), 1);
        due("all, below", x.chance(HIGH, 20, 999, 1), 1);
        due("m 0", x.chance(0, 0, 0, 0), NO);
        due("m 21", x.chance(0, 21, 0, 0), NO);
        due("k -1", x.chance(0, 1, -1, 0), NO);
        due("k 1000", x.chance(0, 1, 1000, 0), NO);
    }

    private static void imageKeeps() {
        says("AN IMAGE keeps HAND, BEGIN, NUMBERS, COLOURS, BUCKETS, THE BUNCH, THE RULE (FLOWERS that came since go)");
        FortyStems x = new FortyStems();
        x.flower(0, 3);
        due("of one, empty", x.image(), 1);
        x.flower(1, 4);
        x.set(0, 0, 1);
        due("back", x.back(), 1);
        due("flowers", x.count(0), 1);
        due("the other is gone", x.told(1, 5), BAD);
        x.set(0, 0, 400);
        x.set(1, 0, 15);
        x.set(2, 0, 9);
        x.set(3, 0, 4);
        x.set(4, 0, 40);
        textOf(x, text("1", "2", "3"));
        x.force(1);
        for (int i = 0; i < FORTY; i++) {
            x.lay(0);
        }
        for (int f = 1; f < 6; f++) {
            x.flower(f, f);
        }
        due("of six, forty laid", x.image(), 6);
        for (int i = 0; i < FORTY; i++) {
            x.draw(0);
        }
        for (int i = 0; i < 10; i++) {
            x.lay(5);
        }
        for (int what = 0; what <= 4; what++) {
            x.set(what, 0, 0);
        }
        x.force(0);
        for (int again = 0; again < 2; again++) {
            due("back to all", x.back(), 6);
            int[] kept = {400, 15, 9, 4, 0, 0};
            for (int what = 0; what <= 5; what++) {
                due("what " + what, x.told(0, what), kept[what]);
            }
            due("the rule", x.count(5), 1);
            due("forty", x.count(1), 40);
            for (int i = 0; i < FORTY; i++) {
                due("flower of " + i, x.stem(i, 0), 0);
                due("angle of " + i, x.stem(i, 1), i % 16);
            }
            x.set(1, 0, 3);
            x.draw(0);
            x.set(0, 0, 400);
            due("another one is laid last", x.lay(2) >= 0 ? x.stem(39, 0) : BAD, 2);
        }
    }

    private static void imageKeepsNoOther() {
        says("AN IMAGE keeps .. (not TEXTS, THE TAPE, SHEETS)");
        FortyStems x = new FortyStems();
        x.flower(0, 0);
        x.image();
        textOf(x, text("1", "2", "3"));
        x.feed(65);
        fill(x, 0, 1, 3, 6);
        x.back();
        due("texts", x.count(3), 2);
        due("tape", x.count(4), 1);
        due("sheet", x.tells(0, 0, 0), NONE);
        due("its size", sizeOf(x, 0), 2);
        due("its sort", sortOf(x, 0), 1);
        due("text 1 can be the rule", x.force(1), 0);
    }

    private static void sheetsAtFirst() {
        says("SHEETS 0 .. 3 are rows of numbers, or missing (as all are at first)");
        FortyStems x = new FortyStems();
        for (int s = 0; s < 4; s++) {
            due("sheet " + s, x.cell(s, 0, 0), NOTHING);
            due("no sort", sortOf(x, s), -1);
        }
        due("sheet -1", x.cell(-1, 0, 0), BAD);
        due("sheet 4", x.cell(4, 0, 0), BAD);
        for (int s = 0; s < 4; s++) {
            due("becomes", x.sheet(s, s % 3, s), 1);
        }
        for (int s = 0; s < 4; s++) {
            due("sort", sortOf(x, s), s % 3);
            due("size", sizeOf(x, s), s);
        }
    }

    private static void sortsOfSheets() {
        says("of sort 0 bytes, 1 shorts, 2 ints");
        int[] bits = {8, 16, 32};
        for (int sort = 0; sort < 3; sort++) {
            FortyStems x = ruled("0", "0", "0");
            x.flower(0, 0);
            x.sheet(0, sort, 1);
            for (int b = 0; b < 32; b++) {
                x.cell(0, 0, 5 + (1 << b));
                boolean lost = b >= bits[sort];
                int due = lost ? 32 : b == 0 ? 64 : b == 1 ? 128 : b == 3 ? 8192 : b == 2 ? 512 : 0;
                due("5 and bit " + b + " of sort " + sort, x.tells(0, 0, 4), due);
            }
            x.cell(0, 0, 5 + LOW);
            due("5 and the sign of sort " + sort, x.tells(0, 0, 4), sort == 2 ? 0 : 32);
        }
    }
}
