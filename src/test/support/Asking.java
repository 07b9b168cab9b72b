import java.util.ArrayList;
import java.util.List;

/** What the tests by hand share: answers that are due, and objects made ready. */
class Asking {
    static final int NONE = -1, BAD = -2, STATE = -3, FULL = -4;
    static final int NOTHING = -11, OUTSIDE = -12, OTHER = -13, BELOW = -14;
    static final long NO = -4611686018427387904L;
    static final int LOW = Integer.MIN_VALUE, HIGH = Integer.MAX_VALUE;

    private static int asked = 0;
    private static int wrong = 0;
    private static String sentence = "";

    interface Call {
        long on(FortyStems x);
    }

    interface Ready {
        FortyStems make();
    }

    /** The words of the document that the answers after this one are about. */
    static void says(String words) {
        sentence = words + ": ";
    }

    static void due(String call, long got, long want) {
        asked++;
        if (got != want) {
            wrong++;
            System.out.println(sentence + call + " answered " + got + ", due is " + want);
        }
    }

    static void end() {
        System.out.println(asked + " answers asked, " + wrong + " wrong");
        if (wrong != 0) {
            System.exit(1);
        }
    }

    /**
     * The call is refused so, and changes nothing: a twin that did not get the call answers all that
     * can be asked alike.
     */
    static void refused(String call, Ready ready, Call refusal, long want) {
        FortyStems x = ready.make();
        FortyStems twin = ready.make();
        due(call, refusal.on(x), want);
        List<Long> got = allOf(x);
        List<Long> due = allOf(twin);
        due(call + " changes how many answers there are", got.size(), due.size());
        for (int i = 0; i < Math.min(got.size(), due.size()); i++) {
            due(call + " changes answer " + i, got.get(i), due.get(i));
        }
    }

    /** All that can be asked of an object, which is no longer as it was when this is through. */
    static List<Long> allOf(FortyStems x) {
        List<Long> all = new ArrayList<>();
        handOf(x, all);
        sheetsOf(x, all);
        all.add((long) x.text());
        for (int text = 0; text < 6; text++) {
            all.add((long) x.force(text));
            for (int what = 7; what <= 9; what++) {
                all.add((long) x.told(0, what));
            }
        }
        all.add((long) x.back());
        handOf(x, all);
        return all;
    }

    private static void handOf(FortyStems x, List<Long> all) {
        for (int what = 0; what <= 5; what++) {
            all.add((long) x.count(what));
        }
        for (int what = 0; what <= 1; what++) {
            all.add((long) x.told(0, what));
        }
        int flowers = x.count(0);
        for (int flower = 0; flower < flowers; flower++) {
            for (int what = 2; what <= 5; what++) {
                all.add((long) x.told(flower, what));
            }
        }
        int stems = x.count(1);
        for (int stem = 0; stem < stems; stem++) {
            all.add((long) x.stem(stem, 0));
            all.add((long) x.stem(stem, 1));
        }
    }

    /**
     * Numbers from 0 to 15 are told apart: by the BEGIN from which FLOWER 0 would be laid there. SHEET 3
     * is what they are copied to, so of this one only the sort and the size are told.
     */
    private static void sheetsOf(FortyStems x, List<Long> all) {
        int[] sorts = new int[4];
        int[] sizes = new int[4];
        for (int sheet = 0; sheet < 4; sheet++) {
            sorts[sheet] = sortOf(x, sheet);
            sizes[sheet] = sizeOf(x, sheet);
            all.add((long) sorts[sheet]);
            all.add((long) sizes[sheet]);
        }
        x.force(0);
        for (int sheet = 0; sheet < 3; sheet++) {
            x.sheet(3, sorts[sheet], 1);
            for (int i = 0; i < sizes[sheet]; i++) {
                x.copy(sheet, i, 3, 0, 1);
                all.add((long) x.tells(3, 0, 4));
            }
        }
    }

    static int sortOf(FortyStems x, int sheet) {
        for (int sort = 0; sort < 3; sort++) {
            if (x.flowers(sheet, sort, 0, 0) == 0) {
                return sort;
            }
        }
        return -1;
    }

    static int sizeOf(FortyStems x, int sheet) {
        int size = -1;
        for (int step = 32; step > 0; step /= 2) {
            if (x.copy(sheet, size + step, sheet, size + step, 0) == 0) {
                size += step;
            }
        }
        return size;
    }

    static FortyStems feedAll(FortyStems x, String text) {
        for (int i = 0; i < text.length(); i++) {
            x.feed(text.charAt(i));
        }
        return x;
    }

    static int textOf(FortyStems x, String text) {
        return feedAll(x, text).text();
    }

    static String text(String turns, String costs, String lasts) {
        return "turns " + turns + ";costs " + costs + ";lasts " + lasts + ";";
    }

    /** A new object under a rule whose turns, costs, lasts are these. */
    static FortyStems ruled(String turns, String costs, String lasts) {
        FortyStems x = new FortyStems();
        String text = text(turns, costs, lasts);
        due("text of " + text, textOf(x, text), 1);
        x.force(1);
        return x;
    }

    static FortyStems fill(FortyStems x, int sheet, int sort, int... items) {
        x.sheet(sheet, sort, items.length);
        for (int i = 0; i < items.length; i++) {
            x.cell(sheet, i, items[i]);
        }
        return x;
    }
}
