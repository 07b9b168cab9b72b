/** For each promise: ordinary inputs, the edges that the document names, and wrong inputs. */
public final class PromisesTest extends Asking {

    public static void main(String[] args) {
        newObject();
        set();
        flower();
        told();
        feed();
        text();
        faults();
        openOnes();
        values();
        bounds();
        force();
        lay();
        draw();
        stem();
        bunch();
        good();
        next();
        howMany();
        order();
        forMoney();
        worst();
        tells();
        film();
        drawn();
        chance();
        imageAndBack();
        count();
        sheet();
        cell();
        copy();
        flowers();
        taken();
        end();
    }

    private static void newObject() {
        FortyStems x = new FortyStems();
        due("1 hand", x.told(0, 0), 200);
        due("1 begin", x.told(0, 1), 0);
        due("1 flowers", x.count(0), 0);
        due("1 stems", x.count(1), 0);
        due("1 buckets", x.count(2), 0);
        due("1 texts", x.count(3), 1);
        due("1 tape", x.count(4), 0);
        due("1 rule", x.count(5), 0);
        for (int s = 0; s < 4; s++) {
            due("1 sheet " + s, x.cell(s, 0, 0), -11);
        }
        due("1 no image", x.back(), STATE);
        FortyStems y = new FortyStems();
        y.flower(0, 0);
        due("1 nothing is shared", x.count(0), 0);
    }

    private static void set() {
        FortyStems x = new FortyStems();
        due("2 hand, of does not matter", x.set(0, LOW, 400), 200);
        due("2 hand again", x.set(0, HIGH, 0), 400);
        due("2 begin", x.set(1, -9, 15), 0);
        due("2 begin again", x.set(1, 9, 0), 15);
        due("2 no flower yet", x.set(2, 0, 0), BAD);
        x.flower(1, 4);
        x.flower(2, 5);
        due("2 number", x.set(2, 1, 9), 5);
        due("2 number again", x.set(2, 1, 0), 9);
        due("2 other number", x.set(2, 0, 0), 4);
        due("2 colour", x.set(3, 0, 4), 0);
        due("2 colour again", x.set(3, 0, 0), 4);
        due("2 bucket", x.set(4, 1, 40), 10);
        due("2 bucket again", x.set(4, 1, 0), 40);
        int[] most = {400, 15, 9, 4, 40};
        for (int what = 0; what < 5; what++) {
            due("2 too much " + what, x.set(what, 0, most[what] + 1), BAD);
            due("2 below 0 " + what, x.set(what, 0, -1), BAD);
            due("2 low " + what, x.set(what, 0, LOW), BAD);
            due("2 as much as goes " + what, x.set(what, 0, most[what]) >= 0 ? 1 : 0, 1);
            due("2 stands " + what, x.told(0, what), most[what]);
        }
        for (int what = 2; what < 5; what++) {
            due("2 of -1", x.set(what, -1, 0), BAD);
            due("2 of 2", x.set(what, 2, 0), BAD);
        }
        due("2 what -1", x.set(-1, 0, 0), BAD);
        due("2 what 5", x.set(5, 0, 0), BAD);
    }

    private static void flower() {
        FortyStems x = new FortyStems();
        due("3 kind -1", x.flower(-1, 0), BAD);
        due("3 kind 6", x.flower(6, 0), BAD);
        due("3 number -1", x.flower(0, -1), BAD);
        due("3 number 10", x.flower(0, 10), BAD);
        due("3 none came", x.count(0), 0);
        for (int kind = 0; kind < 6; kind++) {
            due("3 its number", x.flower(kind, kind + 4), kind);
            due("3 kind", x.told(kind, 5), kind);
            due("3 number", x.told(kind, 2), kind + 4);
            due("3 colour", x.told(kind, 3), 0);
            due("3 bucket", x.told(kind, 4), 10);
        }
        due("3 full", x.flower(0, 0), FULL);
        due("3 bad ahead of full", x.flower(6, 0), BAD);
    }

    private static void told() {
        FortyStems x = ruled("4", "7", "3");
        due("4 of does not matter", x.told(77, 0), 200);
        due("4 nor here", x.told(-77, 1), 0);
        due("4 no flower", x.told(0, 2), BAD);
        int[] thick = {3, 10, 1, 5, 1, 5};
        int[] turns = {4, 5, 4, 5, 8, -4};
        int[] costs = {7, 14, 3, 7, 3, 7};
        int[] lasts = {3, 3, 6, 4, 13, 1};
        for (int kind = 0; kind < 6; kind++) {
            x.flower(kind, 7);
            due("4 thick " + kind, x.told(kind, 6), thick[kind]);
            due("4 turns " + kind, x.told(kind, 7), turns[kind]);
            due("4 costs " + kind, x.told(kind, 8), costs[kind]);
            due("4 lasts " + kind, x.told(kind, 9), lasts[kind]);
        }
        x.set(2, 3, 0);
        due("4 thick of a TULIP of 0 is cut", x.told(3, 6), 1);
        x.set(2, 5, 0);
        due("4 thick of a POPPY of 0", x.told(5, 6), 2);
        due("4 what -1", x.told(0, -1), BAD);
        due("4 what 10", x.told(0, 10), BAD);
        due("4 of -1", x.told(-1, 5), BAD);
        due("4 of 6", x.told(6, 9), BAD);
        FortyStems y = ruled("0", "3", "0");
        y.flower(3, 9);
        due("4 costs 0 at least", y.told(0, 8), 0);
    }

    private static void feed() {
        FortyStems x = new FortyStems();
        due("5 below", x.feed(-1), BAD);
        due("5 above", x.feed(256), BAD);
        due("5 byte 0", x.feed(0), 1);
        due("5 byte 255", x.feed(255), 2);
        for (int i = 3; i <= 160; i++) {
            due("5 so many", x.feed(32), i);
        }
        due("5 full", x.feed(32), FULL);
        due("5 bad ahead of full", x.feed(256), BAD);
        due("5 size", x.count(4), 160);
        due("5 byte 0 begins no token", x.text(), -100);
        due("5 empty", x.count(4), 0);
        due("5 from the front", x.feed(32), 1);
    }

    private static void text() {
        FortyStems x = new FortyStems();
        due("6 empty", x.text(), -100);
        due("6 first", textOf(x, "turns 1;costs 2;lasts 3;"), 1);
        due("6 tape is empty", x.count(4), 0);
        due("6 blanks", textOf(x, "\n turns\n1 ;costs 2 ; lasts 3 ;\n \n"), 2);
        due("6 fault", textOf(x, "turns 1;"), -108);
        due("6 tape is empty by a fault", x.count(4), 0);
        due("6 third", textOf(x, "turns(1);costs-2;lasts not 3;"), 3);
        due("6 fourth", textOf(x, "turns room;costs left;lasts angle;"), 4);
        StringBuilder longest = new StringBuilder("turns 1;costs 2;lasts 3");
        while (longest.length() < 157) {
            longest.append("+0");
        }
        while (longest.length() < 159) {
            longest.append(' ');
        }
        due("6 of 160 bytes", textOf(x, longest.append(';').toString()), 5);
        due("6 texts", x.count(3), 6);
        feedAll(x, "wrong");
        due("6 full ahead of all", x.text(), FULL);
        due("6 the tape stays", x.count(4), 5);
        due("6 the rule stays", x.count(5), 0);
    }

    private static void fault(String text, int place) {
        due("6 fault of " + text, textOf(new FortyStems(), text), -100 - place);
    }

    private static void faults() {
        fault("   ", 3);
        fault("turns", 5);
        fault("turns ", 6);
        fault("costs 1;turns 1;lasts 1;", 0);
        fault("turn 1;", 0);
        fault("turnss 1;", 0);
        fault("Turns 1;", 0);
        fault("turns 1;costs 1;lasts 1", 23);
        fault("turns 1;costs 1;lasts 1;;", 24);
        fault("turns 1;costs 1;lasts 1; \nturns", 26);
        fault("turns 1;costs 1;lasts 1;!", 24);
        fault("turns ;", 6);
        fault("turns 12345;", 6);
        fault("turns 00001;", 6);
        fault("turns 1 2;", 8);
        fault("turns 1 stem;", 8);
        fault("turns 1<2<3;", 9);
        fault("turns 1=2=3;", 9);
        fault("turns 1+not 2;", 8);
        fault("turns 1<not 2;", 8);
        fault("turns 1*not 2;", 8);
        fault("turns -not 2;", 7);
        fault("turns or 2;", 6);
        fault("turns 1 or;", 10);
        fault("turns 1 and and 2;", 12);
        fault("turns (1;", 8);
        fault("turns 1);", 7);
        fault("turns ();", 7);
        fault("turns +1;", 6);
        fault("turns 1**2;", 8);
        fault("turns turns;", 6);
        fault("turns stems;", 6);
        fault("turns 1\t;", 7);
        fault("turns 1\r;", 7);
        fault("turns 1>2;", 7);
        fault("turns 1 ! ; bloom", 8);
        fault("turns ; !", 6);
        fault("turns 1;costs 99999;", 14);
        fault("turns 1;costs 1;lasts x;", 22);
    }

    private static void openOnes() {
        fault("turns ((((((1))))));", 11);
        fault("turns not not not not not not 1;", 26);
        fault("turns ------1;", 11);
        fault("turns (-(-(-1)));", 11);
        fault("turns not(not(not(1)));", 17);
        fault("turns not(-(not(1+(2))));", 15);
        fault("turns not(-(1+not 2));", 14);
        fault("turns -(-(-1*-(2)));", 14);
        ruled("(((((1)))))", "not not not not not 1", "-----1");
        ruled("1------1", "(((((1)))))+(((((2)))))", "not 1 and not not not not not 1");
        ruled("-----1*-----1", "not((((1))))<((((1))))", "not not not not(1)=(1)");
        fault("turns not not not not(1)=((1));", 26);
        fault("turns not not not not not(1);", 25);
    }

    private static void value(String e, int want) {
        FortyStems x = ruled("0", e, "0");
        x.set(0, 0, 50);
        x.set(1, 0, 9);
        x.flower(0, 7);
        x.set(3, 0, 2);
        due("terms value of " + e, x.told(0, 8), want);
    }

    private static void values() {
        value("stem", 0);
        value("colour", 2);
        value("number", 7);
        value("angle", 9);
        value("left", 10);
        value("room", 50);
        value("2+3*4", 14);
        value("(2+3)*4", 20);
        value("20-5-3", 12);
        value("20-(5-3)", 18);
        value("0007", 7);
        value("2--3", 5);
        value("-2*-3", 6);
        value("1<2", 1);
        value("2<1", 0);
        value("2<2", 0);
        value("2=2", 1);
        value("2=3", 0);
        value("-1<0", 1);
        value("not 5", 0);
        value("not 0", 1);
        value("not 3<2", 1);
        value("not not 5", 1);
        value("5 and 7", 1);
        value("5 and 0", 0);
        value("0 or 7", 1);
        value("0 or 0", 0);
        value("1 or 0 and 0", 1);
        value("(1 or 0) and 0", 0);
        value("7", 7);
        value("1+1<3", 1);
        value("(1<2)+(3=3)+5", 7);
        value("9999*9999*9999*9999*9999*9999", 0);
        value("4096*4096*256+5", 5);
        value("4096*4096*128-1<0", 0);
        value("4096*4096*128<0", 1);
        FortyStems x = ruled("1", "100*stem+10*angle+left", "room");
        x.flower(0, 0);
        x.set(0, 0, 15);
        x.lay(0);
        x.lay(0);
        due("terms stem, angle, left", x.told(0, 8), 228);
        due("terms room", x.told(0, 9), 9);
        x.set(0, 0, 1);
        due("terms room below 0", x.bunch(3), -5);
    }

    private static void bounds() {
        FortyStems x = ruled("9999", "9999", "9999");
        int[] turns = {16, 17, 16, 17, 32, -16};
        int[] costs = {999, 1998, 499, 1993, 499, 999};
        int[] lasts = {30, 30, 60, 31, 65, 1};
        FortyStems y = ruled("-9999", "-9999", "-9999");
        int[] least = {-16, -15, -16, -15, -32, 16};
        int[] leastLasts = {0, 0, 0, 1, 5, 1};
        for (int kind = 0; kind < 6; kind++) {
            x.flower(kind, 5);
            due("terms turns above " + kind, x.told(kind, 7), turns[kind]);
            due("terms costs above " + kind, x.told(kind, 8), costs[kind]);
            due("terms lasts above " + kind, x.told(kind, 9), lasts[kind]);
            y.flower(kind, 5);
            due("terms turns below " + kind, y.told(kind, 7), least[kind]);
            due("terms costs below " + kind, y.told(kind, 8), 0);
            due("terms lasts below " + kind, y.told(kind, 9), leastLasts[kind]);
        }
    }

    private static void force() {
        FortyStems x = new FortyStems();
        due("7 text 0", x.force(0), 0);
        due("7 none such", x.force(1), BAD);
        due("7 below", x.force(-1), BAD);
        textOf(x, "turns 1;costs 2;lasts 3;");
        due("7 text() leaves the rule", x.count(5), 0);
        due("7 forced", x.force(1), 0);
        due("7 back to 0", x.force(0), 1);
        due("7 above", x.force(2), BAD);
        due("7 stays", x.count(5), 0);
    }

    private static void lay() {
        FortyStems x = new FortyStems();
        due("8 none such", x.lay(0), BAD);
        x.flower(0, 0);
        x.flower(5, 0);
        due("8 below", x.lay(-1), BAD);
        due("8 from begin", x.lay(0), 3);
        due("8 back over 0", x.lay(1), 0);
        due("8 going round", x.lay(1), 13);
        due("8 round the other way", x.lay(0), 0);
        due("8 out of the bucket", x.told(0, 4), 8);
        x.set(4, 0, 0);
        x.set(0, 0, 0);
        due("8 state ahead of full", x.lay(0), STATE);
        x.set(4, 0, 1);
        due("8 no room", x.lay(0), FULL);
        x.set(0, 0, 12);
        due("8 room too small", x.lay(0), FULL);
        x.set(0, 0, 13);
        due("8 just room", x.lay(0), 3);
        due("8 empty", x.lay(0), STATE);
        due("8 so many", x.count(1), 5);

        FortyStems y = ruled("left-stem", "0", "0");
        y.flower(0, 0);
        due("8 told ahead", y.lay(0), 10);
        due("8 told ahead again", y.lay(0), (10 + 9 - 1) % 16);

        FortyStems z = new FortyStems();
        z.flower(4, 0);
        z.set(4, 0, 40);
        for (int i = 1; i <= 40; i++) {
            due("8 forty", z.lay(0), 6 * i % 16);
        }
        z.set(4, 0, 1);
        due("8 forty are laid", z.lay(0), FULL);
        due("8 a text of the fortieth's angle", textOf(z, "turns angle; costs angle; lasts stem-20;"), 1);
        z.force(1);
        due("8 its angle", z.told(0, 7), 0);
        due("8 of forty", z.told(0, 9), 2 * 20);
        z.draw(39);
        due("8 the one ahead of it", z.told(0, 8), 10 / 2);
        z.force(0);
        due("8 there is room for one", z.lay(0), 0);
        z.force(1);
        z.set(1, 0, 9);
        due("8 begin does not matter then", z.told(0, 8), 0);
        z.set(4, 0, 1);
        z.set(4, 0, 0);
        due("8 state ahead of forty", z.lay(0), STATE);
    }

    private static void draw() {
        FortyStems x = new FortyStems();
        due("9 none", x.draw(0), BAD);
        x.flower(0, 0);
        x.flower(1, 0);
        x.lay(0);
        x.lay(1);
        x.lay(0);
        due("9 below", x.draw(-1), BAD);
        due("9 above", x.draw(3), BAD);
        due("9 which", x.draw(1), 1);
        due("9 one less", x.count(1), 2);
        due("9 those behind", x.stem(1, 0), 0);
        due("9 angles stay", x.stem(1, 1), 10);
        due("9 back in the bucket", x.told(1, 4), 10);
        due("9 the last", x.draw(1), 0);
        due("9 the next follows the last there is", x.lay(1), 7);
        x.set(4, 1, 40);
        x.draw(1);
        due("9 forty at most", x.told(1, 4), 40);
        x.draw(0);
        due("9 from begin again", x.lay(0), 3);
    }

    private static void stem() {
        FortyStems x = new FortyStems();
        x.flower(0, 0);
        x.flower(2, 0);
        due("10 none", x.stem(0, 0), BAD);
        x.lay(1);
        x.lay(0);
        due("10 flower", x.stem(0, 0), 1);
        due("10 angle", x.stem(0, 1), 3);
        due("10 flower of the second", x.stem(1, 0), 0);
        due("10 angle of the second", x.stem(1, 1), 6);
        due("10 above", x.stem(2, 0), BAD);
        due("10 below", x.stem(-1, 0), BAD);
        due("10 what 2", x.stem(0, 2), BAD);
        due("10 what -1", x.stem(0, -1), BAD);
    }

    private static void bunch() {
        FortyStems x = ruled("number", "number*10", "0");
        x.flower(0, 0);
        x.flower(0, 0);
        x.set(1, 0, 15);
        x.lay(0);
        x.set(2, 1, 1);
        x.lay(1);
        due("11 0 and 15 touch", x.bunch(0), 1);
        due("11 cost as all is now", x.bunch(2), 10);
        x.set(3, 1, 1);
        due("11 unlike colours", x.bunch(0), 0);
        x.set(3, 0, 1);
        x.set(2, 0, 2);
        x.lay(0);
        due("11 2 apart", x.bunch(0), 1);
        x.set(2, 0, 0);
        x.lay(0);
        due("11 0 apart", x.bunch(0), 2);
        due("11 even", x.bunch(1), 3);
        due("11 room", x.bunch(3), 188);
        due("11 quarter 0", x.bunch(4), 3);
        due("11 quarter 1", x.bunch(5), 0);
        due("11 quarter 2", x.bunch(6), 0);
        due("11 quarter 3", x.bunch(7), 1);
        due("11 colour 0", x.bunch(10), 0);
        due("11 colour 1", x.bunch(11), 4);
        due("11 colour 4", x.bunch(14), 0);
        x.set(3, 0, 4);
        due("11 colour 4 now", x.bunch(14), 3);
        int[] none = {-1, 8, 9, 15, LOW, HIGH};
        for (int what : none) {
            due("11 what " + what, x.bunch(what), -100000);
        }
        FortyStems y = new FortyStems();
        y.flower(1, 0);
        y.lay(0);
        y.set(2, 0, 9);
        due("11 room by what is thick now", y.bunch(3), 188);
    }

    private static void good() {
        FortyStems x = new FortyStems();
        x.flower(0, 0);
        x.flower(4, 3);
        x.lay(0);
        x.lay(1);
        x.lay(1);
        due("12 day 0", x.good(0), 3);
        due("12 day 5", x.good(5), 3);
        due("12 day 6", x.good(6), 2);
        due("12 day 13", x.good(13), 2);
        due("12 day 14", x.good(14), 0);
        due("12 day 99", x.good(99), 0);
        due("12 day -1", x.good(-1), BAD);
        due("12 day 100", x.good(100), BAD);
    }

    private static void next() {
        FortyStems x = ruled("0", "0", "0");
        due("13 no flowers", x.next(0), -1);
        x.flower(0, 0);
        x.flower(0, 0);
        x.flower(1, 0);
        x.lay(0);
        due("13 a rose turns 1: all touch, so the first", x.next(0), 0);
        due("13 touching then", x.next(1), 1);
        x.set(3, 1, 1);
        due("13 of another colour", x.next(0), 1);
        due("13 none touches", x.next(1), 0);
        x.set(4, 1, 0);
        due("13 none in the bucket", x.next(0), 0);
        x.set(4, 0, 0);
        due("13 the rose is left", x.next(0), 2);
        x.set(0, 0, 5);
        due("13 no room", x.next(0), -1);
        due("13 as now", x.next(1), 0);
        due("13 changes nothing", x.count(1), 1);
        due("13 what 2", x.next(2), BAD);
        due("13 what -1", x.next(-1), BAD);
    }

    private static void howMany() {
        FortyStems x = new FortyStems();
        due("14 none such", x.howMany(0), BAD);
        x.flower(0, 0);
        due("14 as many as in the bucket", x.howMany(0), 10);
        x.set(0, 0, 29);
        due("14 as room is", x.howMany(0), 9);
        x.set(0, 0, 400);
        x.set(4, 0, 40);
        due("14 forty", x.howMany(0), 40);
        x.lay(0);
        x.set(4, 0, 40);
        due("14 forty with those there are", x.howMany(0), 39);
        x.set(0, 0, 0);
        due("14 room below 0", x.howMany(0), 0);
        due("14 below", x.howMany(-1), BAD);
        due("14 changes nothing", x.count(1), 1);
    }

    private static void order() {
        FortyStems x = ruled("number", "0", "0");
        x.flower(0, 0);
        x.flower(0, 0);
        x.flower(0, 8);
        due("15 no such sheet", x.order(4, 0), BAD);
        due("15 nor below", x.order(-1, 0), BAD);
        due("15 what 2 ahead of missing", x.order(0, 2), BAD);
        due("15 missing", x.order(0, 0), -11);
        fill(x, 0, 2);
        due("15 of none", x.order(0, 0), BAD);
        fill(x, 0, 2, 0, 0, 0, 0, 0, 0, 0);
        due("15 of seven", x.order(0, 0), BAD);
        fill(x, 0, 2, 0, 3);
        due("15 none such", x.order(0, 1), BAD);
        fill(x, 0, 2, 0, -1);
        due("15 nor below 0", x.order(0, 1), BAD);
        fill(x, 0, 0, 0, 2, 0);
        // at 0 8 8 or 0 0 8 two touch, at 8 8 8 all three: of like ones 123 is the first
        due("15 touching", x.order(0, 0), 1);
        due("15 the first of like ones", x.order(0, 1), 123);
        fill(x, 0, 1, 2, 0, 0);
        due("15 all at 8 is worst", x.order(0, 0), 1);
        due("15 one goes ahead", x.order(0, 1), 213);
        x.set(4, 0, 1);
        fill(x, 0, 2, 0, 0, 2, 2);
        due("15 one can not be and is left out", x.order(0, 0), 1);
        due("15 but has its place", x.order(0, 1), 1234);
        fill(x, 0, 2, 1);
        due("15 of one", x.order(0, 1), 1);
        x.set(0, 0, 0);
        due("15 none can be", x.order(0, 0), 0);
        fill(x, 0, 2, 0, 1, 2, 2, 1, 0);
        due("15 so the first", x.order(0, 1), 123456);
        due("15 changes nothing", x.count(1), 0);
    }

    private static void forMoney() {
        FortyStems x = ruled("0", "number", "0");
        due("16 no flowers", x.forMoney(9999), 0);
        x.flower(0, 5);
        x.flower(0, 3);
        x.flower(0, 0);
        due("16 those for nothing", x.forMoney(0), 10);
        due("16 one short", x.forMoney(2), 10);
        due("16 the cheap first", x.forMoney(30), 20);
        due("16 then the dear", x.forMoney(34), 20);
        due("16 one more", x.forMoney(35), 21);
        due("16 all", x.forMoney(80), 30);
        x.set(4, 0, 40);
        x.set(4, 1, 40);
        x.set(4, 2, 40);
        x.set(0, 0, 0);
        due("16 more than forty, without room", x.forMoney(9999), 120);
        due("16 below", x.forMoney(-1), BAD);
        due("16 above", x.forMoney(10000), BAD);
    }

    private static void worst() {
        FortyStems x = ruled("number", "0", "0");
        due("17 none", x.worst(0), -1);
        x.flower(0, 8);
        x.lay(0);
        x.set(2, 0, 7);
        x.lay(0);
        due("17 none touch", x.worst(0), -1);
        due("17 as now", x.worst(1), 0);
        x.set(2, 0, 1);
        x.lay(0);
        // 8 15 0: 15 and 0 touch
        due("17 the first of like ones", x.worst(0), 1);
        due("17 touching then", x.worst(1), 0);
        x.lay(0);
        // 8 15 0 1: 0 touches both
        due("17 the one between", x.worst(0), 2);
        due("17 none left", x.worst(1), 0);
        due("17 what 2", x.worst(2), BAD);
        due("17 what -1", x.worst(-1), BAD);
        due("17 changes nothing", x.count(1), 4);
    }

    private static void tells() {
        FortyStems x = ruled("number", "0", "0");
        x.flower(0, 3);
        x.lay(0);
        fill(x, 0, 2, 3, 6, 9);
        due("18 all so", x.tells(0, 0, 0), -1);
        due("18 kinds", x.tells(0, 0, 1), 1 | 4);
        due("18 numbers", x.tells(0, 0, 2), 8);
        due("18 colours", x.tells(0, 0, 3), 31);
        due("18 begins", x.tells(0, 0, 4), 1);
        due("18 texts", x.tells(0, 0, 5), 3);
        fill(x, 0, 2, 3, 6, 25);
        due("18 25 is no 9", x.tells(0, 0, 0), 2);
        fill(x, 0, 0, 4);
        due("18 otherwise at once", x.tells(0, 0, 0), 0);
        due("18 a rose or a tulip", x.tells(0, 0, 1), 2 | 8);
        due("18 another number", x.tells(0, 0, 2), 16);
        due("18 another begin", x.tells(0, 0, 4), 2);
        due("18 no text", x.tells(0, 0, 5), 0);
        fill(x, 0, 0);
        due("18 no angles", x.tells(0, 0, 4), 65535);
        due("18 no such sheet", x.tells(4, 0, 0), BAD);
        due("18 nor below", x.tells(-1, 0, 0), BAD);
        due("18 no such flower", x.tells(1, 1, 0), BAD);
        due("18 what 6", x.tells(1, 0, 6), BAD);
        due("18 what -1", x.tells(1, 0, -1), BAD);
        due("18 missing", x.tells(1, 0, 0), -11);
        x.sheet(1, 0, 21);
        due("18 more than 20", x.tells(1, 0, 0), BAD);
        x.sheet(1, 0, 20);
        due("18 20", x.tells(1, 0, 0), 0);

        FortyStems y = ruled("left*(left<0)+room*(room<0)", "0", "0");
        y.flower(1, 0);
        y.set(4, 0, 1);
        y.set(0, 0, 4);
        // a ROSE turns 1 more: left 1, 0, -1, -2 and room 4, 1, -2, -5
        fill(y, 0, 0, 1, 2, 0, 10);
        due("18 bucket and room below 0", y.tells(0, 0, 0), -1);
    }

    private static void film() {
        FortyStems x = new FortyStems();
        x.flower(4, 0);
        x.lay(0);
        x.set(1, 0, 15);
        due("19 no such sheet", x.film(4, 0, 0), BAD);
        due("19 no such flower", x.film(0, 1, 0), BAD);
        due("19 n 21", x.film(0, 0, 21), BAD);
        due("19 n -1", x.film(0, 0, -1), BAD);
        due("19 a refusal changes nothing", x.cell(0, 0, 0), -11);
        due("19 20", x.film(0, 0, 20), 20);
        due("19 its size", x.cell(0, 20, 0), -12);
        x.sheet(1, 0, 20);
        due("19 bytes", x.copy(0, 0, 1, 0, 20), 20);
        int[] first = {5, 11, 1, 7, 13, 3, 9, 15};
        fill(x, 2, 0, first);
        due("19 as told", x.tells(2, 0, 0), -1);
        due("19 0", x.film(2, 0, 0), 0);
        due("19 none in it", x.cell(2, 0, 0), -12);
        due("19 nothing is laid", x.count(1), 1);
    }

    private static void drawn() {
        FortyStems x = new FortyStems();
        due("20 n 41 ahead of no flowers", x.drawn(0, 41), BAD);
        due("20 n -1", x.drawn(0, -1), BAD);
        due("20 no flowers", x.drawn(0, 0), STATE);
        x.flower(4, 0);
        x.set(4, 0, 40);
        due("20 0 of them", x.drawn(7, 0), 0);
        // FERNS at 6, 12, 2, 8, 14, 4, 10, 0, then 6 again ..: even angles, so only like ones touch
        due("20 eight of one kind", x.drawn(7, 8), 0);
        due("20 nine", x.drawn(7, 9), 1);
        due("20 forty", x.drawn(-7, 40), 8 * 10);
        x.set(4, 0, 3);
        due("20 as many as can be", x.drawn(1, 40), 0);
        x.lay(0);
        x.set(4, 0, 40);
        due("20 behind those there are", x.drawn(1, 8), 1);
        due("20 changes nothing", x.count(1), 1);
        FortyStems y = ruled("0", "0", "0");
        y.flower(0, 0);
        y.flower(0, 0);
        y.set(3, 1, 1);
        int z = HIGH;
        int[] of = new int[2];
        for (int i = 0; i < 12; i++) {
            z = z * 1103515245 + 12345;
            int f = (z >>> 9) % 2;
            of[f] = Math.min(10, of[f] + 1);
        }
        int pairs = of[0] * (of[0] - 1) / 2 + of[1] * (of[1] - 1) / 2;
        due("20 by the seed", y.drawn(HIGH, 12), pairs);
    }

    private static void chance() {
        FortyStems x = new FortyStems();
        due("21 no flowers", x.chance(0, 1, 0, 0), NO);
        x.flower(4, 0);
        x.set(4, 0, 40);
        // 20 FERNS at eight angles: four of three, four of two: 4 * 3 + 4 * 1
        due("21 all", x.chance(5, 20, 16, 0), 1);
        due("21 all, below", x.chance(5, 20, 16, 1), 1);
        due("21 none", x.chance(5, 20, 15, 0), 0);
        due("21 none, below", x.chance(5, 20, 15, 1), 1);
        due("21 m 0", x.chance(0, 0, 0, 0), NO);
        due("21 m 21", x.chance(0, 21, 0, 0), NO);
        due("21 k -1", x.chance(0, 1, -1, 0), NO);
        due("21 k 999", x.chance(0, 1, 999, 0), 1);
        due("21 k 1000", x.chance(0, 1, 1000, 0), NO);
        due("21 part -1", x.chance(0, 1, 0, -1), NO);
        due("21 part 2", x.chance(0, 1, 0, 2), NO);
        x.flower(0, 0);
        x.flower(5, 2);
        x.set(3, 2, 1);
        for (int k = 0; k < 60; k += 3) {
            int few = 0;
            for (int i = 0; i < 12; i++) {
                if (x.drawn(HIGH - 4 + i, 20) <= k) {
                    few++;
                }
            }
            long above = x.chance(HIGH - 4, 12, k, 0);
            long below = x.chance(HIGH - 4, 12, k, 1);
            due("21 as drawn, k " + k, above * 12, few * below);
            for (int d = 2; d <= 12; d++) {
                due("21 lowest terms", above % d == 0 && below % d == 0 ? 1 : 0, 0);
            }
        }
    }

    private static void imageAndBack() {
        FortyStems x = new FortyStems();
        due("23 none", x.back(), STATE);
        due("22 of no flowers", x.image(), 0);
        x.flower(0, 1);
        due("23 flowers go", x.back(), 0);
        due("23 are gone", x.count(0), 0);
        x.flower(1, 2);
        x.lay(0);
        due("22 of one", x.image(), 1);
        x.set(0, 0, 7);
        x.set(1, 0, 8);
        x.set(2, 0, 9);
        x.set(3, 0, 1);
        x.set(4, 0, 33);
        textOf(x, "turns 1;costs 2;lasts 3;");
        x.force(1);
        x.draw(0);
        x.flower(2, 3);
        x.sheet(0, 0, 2);
        x.feed(65);
        due("23 back", x.back(), 1);
        due("23 hand", x.told(0, 0), 200);
        due("23 begin", x.told(0, 1), 0);
        due("23 number", x.told(0, 2), 2);
        due("23 colour", x.told(0, 3), 0);
        due("23 bucket", x.told(0, 4), 9);
        due("23 kind", x.told(0, 5), 1);
        due("23 bunch", x.stem(0, 1), 4);
        due("23 rule", x.count(5), 0);
        due("23 texts stay", x.count(3), 2);
        due("23 tape stays", x.count(4), 1);
        due("23 sheets stay", x.cell(0, 1, 1), 1);
        x.lay(0);
        due("23 once more", x.back(), 1);
        due("23 the image is no part of the hand", x.count(1), 1);
        due("23 next flower's number", x.flower(4, 0), 1);
        due("23 of its own kind", x.told(1, 5), 4);
        due("23 as one comes", x.told(1, 4), 10);
    }

    private static void count() {
        FortyStems x = new FortyStems();
        x.flower(0, 0);
        x.flower(0, 0);
        x.set(4, 1, 40);
        x.lay(0);
        textOf(x, "turns 1;costs 2;lasts 3;");
        x.force(1);
        x.feed(1);
        due("24 flowers", x.count(0), 2);
        due("24 stems", x.count(1), 1);
        due("24 buckets", x.count(2), 49);
        due("24 texts", x.count(3), 2);
        due("24 tape", x.count(4), 1);
        due("24 rule", x.count(5), 1);
        due("24 what 6", x.count(6), BAD);
        due("24 what -1", x.count(-1), BAD);
    }

    private static void sheet() {
        FortyStems x = new FortyStems();
        due("25 bytes", x.sheet(0, 0, 40), 1);
        due("25 item 39", x.cell(0, 39, 1), 1);
        due("25 none behind", x.cell(0, 40, 1), -12);
        due("25 n 41", x.sheet(0, 0, 41), BAD);
        due("25 n -1", x.sheet(0, 0, -1), -14);
        due("25 n low", x.sheet(0, 2, LOW), -14);
        due("25 sort 3 ahead of n", x.sheet(0, 3, -1), BAD);
        due("25 sort -2", x.sheet(0, -2, 0), BAD);
        due("25 sheet 4", x.sheet(4, 0, 0), BAD);
        due("25 sheet -1", x.sheet(-1, -1, 0), BAD);
        due("25 stays", x.cell(0, 39, 1), 1);
        due("25 missing, n does not matter", x.sheet(0, -1, -99), 1);
        due("25 is missing", x.cell(0, 0, 0), -11);
        x.flower(0, 0);
        fill(x, 1, 2, 5, 5);
        due("25 all 0 anew", x.sheet(1, 2, 2), 1);
        due("25 so", x.order(1, 1), 12);
        due("25 of none", x.sheet(1, 1, 0), 1);
        due("25 has no items", x.cell(1, 0, 0), -12);
    }

    private static void cell() {
        FortyStems x = new FortyStems();
        x.flower(0, 0);
        x.flower(0, 0);
        due("26 sheet 4", x.cell(4, 0, 0), BAD);
        due("26 sheet -1", x.cell(-1, 0, 0), BAD);
        due("26 missing", x.cell(0, -1, 0), -11);
        x.sheet(0, 0, 2);
        due("26 below", x.cell(0, -1, 0), -12);
        due("26 above", x.cell(0, 2, 0), -12);
        due("26 high", x.cell(0, HIGH, 0), -12);
        due("26 lowest 8 bits", x.cell(0, 0, 256 * 77 + 1), 1);
        due("26 is 1 then", x.order(0, 0), 0);
        x.cell(0, 0, 2);
        due("26 is 2 then", x.order(0, 0), BAD);
        x.sheet(0, 1, 1);
        x.cell(0, 0, 65536 * 7 + 1);
        due("26 lowest 16 bits", x.order(0, 1), 1);
        x.cell(0, 0, 256 + 1);
        due("26 not the lowest 8", x.order(0, 1), BAD);
        x.sheet(0, 2, 1);
        x.cell(0, 0, 65536 + 1);
        due("26 an int is all of it", x.order(0, 1), BAD);
    }

    private static void copy() {
        FortyStems x = new FortyStems();
        due("27 sheet 4", x.copy(4, 0, 0, 0, 0), BAD);
        due("27 other -1", x.copy(0, 0, -1, 0, 0), BAD);
        due("27 missing", x.copy(0, 0, 1, 0, 0), -11);
        fill(x, 0, 2, 3, 6, 9, 12);
        due("27 other missing", x.copy(0, 0, 1, 0, -1), -11);
        x.sheet(1, 1, 4);
        due("27 unlike ahead of outside", x.copy(0, -1, 1, 0, 9), -13);
        x.sheet(1, 2, 3);
        due("27 n below 0", x.copy(0, 0, 1, 0, -1), -12);
        due("27 i below 0", x.copy(0, -1, 1, 0, 1), -12);
        due("27 j below 0", x.copy(0, 0, 1, -1, 1), -12);
        due("27 too many of the one", x.copy(0, 2, 1, 0, 3), -12);
        due("27 too many for the other", x.copy(0, 0, 1, 0, 4), -12);
        due("27 high", x.copy(0, HIGH, 1, HIGH, HIGH), -12);
        due("27 none at the end", x.copy(0, 4, 1, 3, 0), 0);
        due("27 none behind the end", x.copy(0, 5, 1, 0, 0), -12);
        due("27 three", x.copy(0, 0, 1, 0, 3), 3);
        x.flower(0, 0);
        due("27 came", x.tells(1, 0, 0), -1);
        due("27 over itself", x.copy(0, 0, 0, 1, 3), 3);
        x.set(1, 0, 0);
        // 3 3 6 9: from item 1 on it is as it was
        x.copy(0, 1, 1, 0, 3);
        due("27 as they were", x.tells(1, 0, 0), -1);
        x.copy(0, 1, 0, 0, 3);
        x.cell(0, 3, 12);
        due("27 the other way", x.tells(0, 0, 0), -1);
    }

    private static void flowers() {
        FortyStems x = new FortyStems();
        due("28 sheet 4", x.flowers(4, 0, 0, 0), BAD);
        due("28 sort 3", x.flowers(0, 3, 0, 0), BAD);
        due("28 sort -1", x.flowers(0, -1, 0, 0), BAD);
        due("28 n 7", x.flowers(0, 0, 0, 7), BAD);
        due("28 n -1", x.flowers(0, 0, 0, -1), BAD);
        due("28 missing", x.flowers(0, 0, 0, 0), -11);
        fill(x, 0, 1, 9, 1, 2, 6, 0, 3, 9, 5);
        due("28 another sort, also of none", x.flowers(0, 0, 0, 0), -13);
        due("28 of none nothing is read", x.flowers(0, 1, -5, 0), 0);
        due("28 from -1", x.flowers(0, 1, -1, 1), -12);
        due("28 from low", x.flowers(0, 1, LOW, 2), -12);
        due("28 from high", x.flowers(0, 1, HIGH, 2), -12);
        due("28 half a pair", x.flowers(0, 1, 7, 1), -12);
        due("28 none came", x.count(0), 0);
        due("28 others are left out", x.flowers(0, 1, 1, 3), 2);
        due("28 kind", x.told(1, 5), 3);
        due("28 number", x.told(1, 2), 9);
        due("28 what stood ahead came", x.flowers(0, 1, 5, 2), -12);
        due("28 one came", x.count(0), 3);
        x.sheet(1, 2, 12);
        due("28 full ones are left out", x.flowers(1, 2, 0, 6), 3);
        due("28 six", x.count(0), 6);
        due("28 outside, when full too", x.flowers(1, 2, 11, 1), -12);
    }

    private static void taken() {
        FortyStems x = new FortyStems();
        int[] under = {1, 3, 5, 11, 21, 33};
        for (int kind = 0; kind < 6; kind++) {
            x.flower(kind, kind + 2);
        }
        for (int kind = 0; kind < 6; kind++) {
            for (int k = 0; k < 6; k++) {
                boolean is = (under[kind] >> k & 1) != 0;
                due("29 " + kind + " for " + k, x.taken(kind, k), is ? kind + 2 : -13);
            }
        }
        due("29 k 6 ahead of no such flower", x.taken(6, 6), BAD);
        due("29 k -1", x.taken(0, -1), BAD);
        due("29 no such flower", x.taken(6, 0), -11);
        due("29 nor below", x.taken(-1, 5), -11);
    }
}
