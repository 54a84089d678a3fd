import java.util.ArrayList;
import java.util.Arrays;
import java.util.List;
import java.util.Random;

/** Runs of 512 made-up calls each, compared with a model that moves line by line and takes a refused call back. */
public final class PrinterRowsModelRuns {
    private static final int RUNS = 4000;
    /** Each with a look at one thing; with the looks at the end, a run is 512 calls. */
    private static final int STEPS = 226;
    private static final int LAST_LOOKS = 60;
    private static final int[] CODES = {32, 48, 45, 43, 256, 257, 258, 259, 272, 260, 0, -7, 285};

    private final Random random;
    private final PrinterRows real;
    private final Model model;
    private final int lines;
    private final int columns;
    private String last = "";

    private PrinterRowsModelRuns(int seed) {
        random = new Random(seed);
        lines = random.nextInt(4) == 0 ? 66 : 1 + random.nextInt(8);
        columns = random.nextInt(4) == 0 ? 132 : 1 + random.nextInt(8);
        real = new PrinterRows(lines, columns);
        model = new Model(lines, columns);
    }

    public static void main(String[] args) {
        int wrong = 0;
        for (int seed = 0; seed < RUNS && wrong < 5; seed++) {
            if (!new PrinterRowsModelRuns(seed).agrees(seed)) {
                wrong++;
            }
        }
        System.out.println(wrong == 0 ? "all runs agree with the model" : "runs do not agree with the model");
        if (wrong != 0) {
            System.exit(1);
        }
    }

    private boolean agrees(int seed) {
        for (int step = 0; step < STEPS; step++) {
            int kind = random.nextInt(40);
            int a = number();
            int b = number();
            int c = number();
            long want = model.call(kind, a, b, c);
            long got = callReal(kind, a, b, c);
            if (want != got) {
                System.out.println("run " + seed + ", step " + step + ": " + last + " answered " + got
                    + ", the model " + want);
                return false;
            }
            if (!looksSame()) {
                System.out.println("run " + seed + ", step " + step + ": a page or a tally differs, the last call was "
                    + last);
                return false;
            }
        }
        for (int look = 0; look < LAST_LOOKS; look++) {
            if (!looksSame()) {
                System.out.println("run " + seed + ": a page or a tally differs at its end");
                return false;
            }
        }
        return true;
    }

    private int number() {
        switch (random.nextInt(8)) {
            case 0: return random.nextInt();
            case 1: return random.nextInt(400) - 20;
            case 2: return CODES[random.nextInt(CODES.length)];
            case 3: return 272 + random.nextInt(14);
            case 4: return 48 + random.nextInt(22);
            default: return random.nextInt(14) - 1;
        }
    }

    private long callReal(int kind, int a, int b, int c) {
        last = Model.name(kind) + " with " + a + ", " + b + ", " + c;
        switch (Model.name(kind)) {
            case "sign": real.sign(a); return 0;
            case "line": return real.line(a);
            case "channel": return real.channel(a, b);
            case "skip": return real.skip(a);
            case "end": return real.end();
            case "over": return real.over(a, b);
            case "translate": return real.translate(a, b);
            case "copies": return real.copies(a, b, c);
            case "back": return real.back(a);
            case "forms": return real.forms(a);
            default: return signOrThrow(a, b, c);
        }
    }

    private long signOrThrow(int page, int line, int column) {
        try {
            return real.at(page, line, column);
        } catch (ArrayIndexOutOfBoundsException e) {
            return Model.THROWS;
        }
    }

    /** Looks at one tally, or at one place: mostly of the last page, and of the line on which the printer stands. */
    private boolean looksSame() {
        if (random.nextInt(3) == 0) {
            int what = random.nextInt(10) - 1;
            return real.tally(what) == model.tally(what);
        }
        int page = random.nextBoolean() ? model.pages.size() - 1 : random.nextInt(model.pages.size() + 2) - 1;
        int line = random.nextBoolean() ? model.standLine : random.nextInt(lines + 2) - 1;
        int column = random.nextInt(Math.min(columns, 16) + 2) - 1;
        return signOrThrow(page, line, column) == model.signAt(page, line, column);
    }

    /** Thrown where the 41st page would be begun, or a skip would come to it. */
    private static final class Full extends RuntimeException {
        private static final long serialVersionUID = 1L;
    }

    private static final class Model {
        static final long THROWS = Long.MIN_VALUE;

        private final int lines;
        private final int columns;
        private List<int[][]> pages = new ArrayList<>();
        private boolean begun = false;
        private int standLine = 0;
        private List<Integer> record = new ArrayList<>();
        private final int[] channels = new int[13];
        private final int[] as = new int[256];
        private int mounted = 0;
        private int[] counts = new int[8];

        Model(int lines, int columns) {
            this.lines = lines;
            this.columns = columns;
            Arrays.fill(channels, -1);
            for (int c = 0; c < 256; c++) {
                as[c] = c;
            }
        }

        static String name(int kind) {
            String[] names = {"channel", "channel", "skip", "skip", "skip", "end", "over", "translate", "translate",
                "copies", "copies", "back", "forms", "at"};
            return kind < names.length ? names[kind] : kind < 25 ? "line" : "sign";
        }

        long call(int kind, int a, int b, int c) {
            List<int[][]> oldPages = new ArrayList<>(pages);
            int[][] oldLast = pages.isEmpty() ? null : copy(pages.get(pages.size() - 1));
            boolean oldBegun = begun;
            int oldLine = standLine;
            List<Integer> oldRecord = new ArrayList<>(record);
            int[] oldCounts = counts.clone();
            try {
                return answer(name(kind), a, b, c);
            } catch (Full e) {
                pages = oldPages;
                if (oldLast != null) {
                    pages.set(pages.size() - 1, oldLast);
                }
                begun = oldBegun;
                standLine = oldLine;
                record = oldRecord;
                counts = oldCounts;
                return -6;
            }
        }

        private long answer(String name, int a, int b, int c) {
            switch (name) {
                case "sign":
                    if (record.size() < 200) {
                        int sign = ((a % 256) + 256) % 256;
                        record.add(sign < 32 ? 32 : sign);
                    }
                    return 0;
                case "line": return line(a);
                case "channel":
                    if (a < 1 || a > 12 || b < -1 || b >= lines) {
                        return -2;
                    }
                    int was = channels[a];
                    channels[a] = b;
                    return was;
                case "skip": return a < 1 || a > 12 ? 0 : skipOnPages(a);
                case "end": return over();
                case "over": return sign(a) && sign(b) ? Math.max(a, b) : -1;
                case "translate":
                    if (!sign(a) || !sign(b)) {
                        return -1;
                    }
                    int before = as[a];
                    as[a] = b;
                    return before;
                case "copies": return copies(a, b, c);
                case "back":
                    if (a < 0 || a > pages.size()) {
                        return -2;
                    }
                    pages = new ArrayList<>(pages.subList(0, pages.size() - a));
                    return over();
                case "forms":
                    if (a < 0) {
                        return -2;
                    }
                    if (a == mounted) {
                        return 1;
                    }
                    mounted = a;
                    counts[6]++;
                    over();
                    return 2;
                default: return signAt(a, b, c);
            }
        }

        private long copies(int n, int from, int to) {
            if (n < 1 || n > 9 || from < 0 || to < from || to >= pages.size()) {
                return -2;
            }
            List<int[][]> chosen = new ArrayList<>(pages.subList(from, to + 1));
            for (int i = 0; i < n; i++) {
                for (int[][] page : chosen) {
                    add(copy(page));
                }
            }
            return over();
        }

        private static boolean sign(int c) {
            return c >= 32 && c <= 255;
        }

        private int line(int code) {
            String first = " 0-+123456789ABC";
            int place = code >= 0 && code < 256 ? first.indexOf((char) code) : -1;
            if (code >= 256 && code <= 259) {
                print();
                move(code - 256);
            } else if (code >= 273 && code <= 284) {
                print();
                skipTo(code - 272);
            } else {
                if (place >= 4) {
                    skipTo(place - 3);
                } else {
                    move(place < 0 ? 1 : (place + 1) % 4);
                }
                print();
            }
            return pages.size();
        }

        private int skipOnPages(int c) {
            int by = skipTo(c);
            if (!begun && pages.size() == 40) {
                throw new Full();
            }
            return by;
        }

        private int skipTo(int c) {
            if (channels[c] < 0) {
                move(lines);
                counts[5]++;
                return -1;
            }
            int by = 0;
            do {
                move(1);
                by++;
            } while (standLine != channels[c]);
            return by;
        }

        private void move(int by) {
            for (int i = 0; i < by; i++) {
                standLine++;
                if (standLine == lines) {
                    begin();
                    over();
                }
            }
        }

        private void begin() {
            if (!begun) {
                int[][] page = new int[lines][columns];
                for (int[] row : page) {
                    Arrays.fill(row, 32);
                }
                add(page);
                begun = true;
            }
        }

        private void add(int[][] page) {
            if (pages.size() == 40) {
                throw new Full();
            }
            pages.add(page);
        }

        private int over() {
            begun = false;
            standLine = 0;
            return pages.size();
        }

        private void print() {
            begin();
            int[] row = pages.get(pages.size() - 1)[standLine];
            for (int i = 0; i < record.size(); i++) {
                int sign = as[record.get(i)];
                if (i >= columns) {
                    counts[4]++;
                } else {
                    row[i] = Math.max(row[i], sign);
                    counts[3] += sign == 32 ? 0 : 1;
                }
            }
            record = new ArrayList<>();
            counts[2]++;
        }

        private static int[][] copy(int[][] page) {
            int[][] other = new int[page.length][];
            for (int i = 0; i < page.length; i++) {
                other[i] = page[i].clone();
            }
            return other;
        }

        long signAt(int page, int line, int column) {
            boolean there = page >= 0 && page < pages.size() && line >= 0 && line < lines
                && column >= 0 && column < columns;
            return there ? pages.get(page)[line][column] : THROWS;
        }

        int tally(int what) {
            switch (what) {
                case 0: return pages.size();
                case 1: return standLine;
                case 7: return record.size();
                default: return what < 0 || what > 7 ? -1 : counts[what];
            }
        }
    }
}
