import java.util.Arrays;

/** A line printer that keeps its pages as rows of signs. */
public final class PrinterRows {
    public static final int NONE = -1;

    private static final int NO_SUCH = -2;
    private static final int NO_ROOM = -6;

    private static final int MOST_LINES = 66;
    private static final int MOST_COLUMNS = 132;
    private static final int MOST_PAGES = 40;
    private static final int MOST_SIGNS = 200;
    private static final int MOST_COPIES = 9;

    private static final int FIRST_CHANNEL = 1;
    private static final int LAST_CHANNEL = 12;

    private static final int BLANK = 32;
    private static final int LAST_SIGN = 255;
    private static final int SIGN_COUNT = 256;

    /** Codes from here on print first and move then. */
    private static final int SECOND_KIND = 256;
    private static final int SECOND_KIND_MOST_LINES = 3;
    private static final int SECOND_KIND_CHANNELS = SECOND_KIND + 16;

    private final int lines;
    private final int columns;

    /** By channel number, so that index 0 is never used. */
    private final int[] channelLines;
    private final int[] printedAs;

    private final int[] record;
    private int recordLength;

    private final Page[] pages;
    private int begun;
    /** Whether the printer stands on the last begun page, or on a new one behind it. */
    private boolean onBegunPage;
    private int standLine;

    private int mountedKind;

    private int recordsPrinted;
    private int signsPrinted;
    private int signsCut;
    private int skipsToNoLine;
    private int formsAskedFor;

    public PrinterRows(int lines, int columns) {
        this.lines = heldTo(lines, MOST_LINES);
        this.columns = heldTo(columns, MOST_COLUMNS);
        channelLines = new int[LAST_CHANNEL + 1];
        Arrays.fill(channelLines, NONE);
        printedAs = new int[SIGN_COUNT];
        for (int c = 0; c < SIGN_COUNT; c++) {
            printedAs[c] = c;
        }
        record = new int[MOST_SIGNS];
        pages = new Page[MOST_PAGES];
    }

    public int channel(int c, int line) {
        if (!isChannel(c) || line < NONE || line >= lines) {
            return NO_SUCH;
        }
        int before = channelLines[c];
        channelLines[c] = line;
        return before;
    }

    public void sign(int c) {
        if (recordLength < 0 || recordLength >= record.length) {
            return;
        }
        record[recordLength] = Math.max(BLANK, Math.floorMod(c, SIGN_COUNT));
        recordLength++;
    }

    public int line(int code) {
        int channel = channelOfCode(code);
        int way = isChannel(channel) ? wayTo(channel) : linesOfCode(code);
        if (isSecondKind(code)) {
            if (!endsOnAPage(0) || !endsAtMostBehindThem(way)) {
                return NO_ROOM;
            }
            printRecord();
            moveBy(way);
        } else {
            if (!endsOnAPage(way)) {
                return NO_ROOM;
            }
            moveBy(way);
            printRecord();
        }
        if (isChannel(channel)) {
            countSkip(channel);
        }
        return begun;
    }

    public int skip(int c) {
        if (!isChannel(c)) {
            return 0;
        }
        int way = wayTo(c);
        if (!endsOnAPage(way)) {
            return NO_ROOM;
        }
        moveBy(way);
        countSkip(c);
        return channelLines[c] == NONE ? NONE : way;
    }

    public int end() {
        standOnNewPage();
        return begun;
    }

    public int at(int page, int line, int column) throws ArrayIndexOutOfBoundsException {
        Page found = begunPage(page);
        if (found == null || line < 0 || line >= lines || column < 0 || column >= columns) {
            throw new ArrayIndexOutOfBoundsException("no such place");
        }
        return found.signIn(line, column);
    }

    public int over(int a, int b) {
        if (!isSign(a) || !isSign(b)) {
            return NONE;
        }
        return darker(a, b);
    }

    public int translate(int c, int to) {
        if (!isSign(c) || !isSign(to)) {
            return NONE;
        }
        int before = printedAs[c];
        printedAs[c] = to;
        return before;
    }

    public int copies(int n, int from, int to) {
        if (n < 1 || n > MOST_COPIES || from < 0 || from > to || to >= begun) {
            return NO_SUCH;
        }
        if (begun + n * (to - from + 1) > MOST_PAGES) {
            return NO_ROOM;
        }
        for (int time = 0; time < n; time++) {
            for (int page = from; page <= to; page++) {
                addPage(begunPage(page));
            }
        }
        standOnNewPage();
        return begun;
    }

    public int back(int n) {
        if (n < 0 || n > begun) {
            return NO_SUCH;
        }
        for (int taken = 0; taken < n; taken++) {
            takeLastPage();
        }
        standOnNewPage();
        return begun;
    }

    public int forms(int kind) {
        if (kind < 0) {
            return NO_SUCH;
        }
        if (kind == mountedKind) {
            return 1;
        }
        mountedKind = kind;
        formsAskedFor++;
        standOnNewPage();
        return 2;
    }

    public int tally(int what) {
        switch (what) {
            case 0:
                return begun;
            case 1:
                return standLine;
            case 2:
                return recordsPrinted;
            case 3:
                return signsPrinted;
            case 4:
                return signsCut;
            case 5:
                return skipsToNoLine;
            case 6:
                return formsAskedFor;
            case 7:
                return recordLength;
            default:
                return NONE;
        }
    }

    private static int heldTo(int number, int most) {
        return Math.max(1, Math.min(number, most));
    }

    private static boolean isChannel(int c) {
        return c >= FIRST_CHANNEL && c <= LAST_CHANNEL;
    }

    private static boolean isSign(int c) {
        return c >= BLANK && c <= LAST_SIGN;
    }

    /** The blank is the least sign, so the greater number is the darker one for blanks, too. */
    private static int darker(int a, int b) {
        return Math.max(a, b);
    }

    private static boolean isSecondKind(int code) {
        return isPlainSecondKind(code) || isChannel(code - SECOND_KIND_CHANNELS);
    }

    private static boolean isPlainSecondKind(int code) {
        return code >= SECOND_KIND && code <= SECOND_KIND + SECOND_KIND_MOST_LINES;
    }

    private static int channelOfCode(int code) {
        if (code >= '1' && code <= '9') {
            return code - '0';
        }
        if (code >= 'A' && code <= 'C') {
            return code - 'A' + 10;
        }
        int channel = code - SECOND_KIND_CHANNELS;
        return isChannel(channel) ? channel : NONE;
    }

    private static int linesOfCode(int code) {
        if (isPlainSecondKind(code)) {
            return code - SECOND_KIND;
        }
        switch (code) {
            case '+':
                return 0;
            case '0':
                return 2;
            case '-':
                return 3;
            default:
                return 1;
        }
    }

    private int wayTo(int channel) {
        int line = isChannel(channel) ? channelLines[channel] : NONE;
        if (line == NONE) {
            return lines;
        }
        return line > standLine ? line - standLine : line - standLine + lines;
    }

    private void countSkip(int channel) {
        if (isChannel(channel) && channelLines[channel] == NONE) {
            skipsToNoLine++;
        }
    }

    private int standPage() {
        return onBegunPage ? begun - 1 : begun;
    }

    private int pageAfter(int way) {
        int linesOfPage = Math.max(1, lines);
        return standPage() + (standLine + way) / linesOfPage;
    }

    /** Whether the way ends on one of the 40 pages: there a record can be printed, and a skip may end only there. */
    private boolean endsOnAPage(int way) {
        return pageAfter(way) < MOST_PAGES;
    }

    /** Moving begins only the pages that it leaves: behind a record it may come to a 41st one, but not leave it. */
    private boolean endsAtMostBehindThem(int way) {
        return pageAfter(way) <= MOST_PAGES;
    }

    private void moveBy(int way) {
        for (int moved = 0; moved < way; moved++) {
            if (standLine + 1 < lines) {
                standLine++;
            } else {
                beginPage();
                standOnNewPage();
            }
        }
    }

    private void standOnNewPage() {
        onBegunPage = false;
        standLine = 0;
    }

    private void beginPage() {
        if (!onBegunPage) {
            addPage(new Page(lines, columns));
            onBegunPage = true;
        }
    }

    private void addPage(Page page) {
        if (begun >= 0 && begun < pages.length) {
            pages[begun] = page;
            begun++;
        }
    }

    private void takeLastPage() {
        if (begun > 0 && begun <= pages.length) {
            begun--;
            pages[begun] = null;
        }
    }

    private Page begunPage(int page) {
        return page >= 0 && page < begun && page < pages.length ? pages[page] : null;
    }

    private void printRecord() {
        beginPage();
        Page page = begunPage(begun - 1);
        for (int column = 0; column < recordLength && column < record.length; column++) {
            if (column >= columns) {
                signsCut++;
            } else if (page != null) {
                printSign(page, column, record[column]);
            }
        }
        recordLength = 0;
        recordsPrinted++;
    }

    private void printSign(Page page, int column, int sign) {
        int printed = isSign(sign) ? printedAs[sign] : BLANK;
        if (printed != BLANK) {
            page.join(standLine, column, printed);
            signsPrinted++;
        }
    }

    /**
     * A page never changes once the printer has left it, so that copies are the same object;
     * and a line has a row of its own only when something was printed there, so that blank pages are small.
     */
    private static final class Page {
        private final Row[] rows;
        private final int columns;

        Page(int lines, int columns) {
            rows = new Row[Math.max(0, lines)];
            this.columns = columns;
        }

        void join(int line, int column, int sign) {
            if (line < 0 || line >= rows.length) {
                return;
            }
            if (rows[line] == null) {
                rows[line] = new Row(columns);
            }
            rows[line].joinSign(column, sign);
        }

        int signIn(int line, int column) {
            if (line < 0 || line >= rows.length || rows[line] == null) {
                return BLANK;
            }
            return rows[line].signOf(column);
        }
    }

    private static final class Row {
        private final int[] signs;

        Row(int columns) {
            signs = new int[Math.max(0, columns)];
            Arrays.fill(signs, BLANK);
        }

        void joinSign(int column, int sign) {
            if (column >= 0 && column < signs.length) {
                signs[column] = darker(signs[column], sign);
            }
        }

        int signOf(int column) {
            return column >= 0 && column < signs.length ? signs[column] : BLANK;
        }
    }
}
