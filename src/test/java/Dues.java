import java.util.Arrays;
import java.util.function.IntSupplier;

/** What the tests of the promises share: calls with the answers that are due, and a count of those that were not. */
abstract class Dues {
    static final int MOST_PAGES = 40;

    private static int wrong = 0;
    private static String about = "";

    /** Names what the next calls are about: it is told with each answer that is not as due. */
    static void about(String what) {
        about = what;
    }

    static void endWith(String allWell) {
        System.out.println(wrong == 0 ? allWell : wrong + " answers are not as due");
        if (wrong != 0) {
            System.exit(1);
        }
    }

    /** A printer of one place a page, with 40 pages begun, on the last one. */
    static PrinterRows onTheLastPage() {
        PrinterRows x = new PrinterRows(1, 1);
        for (int page = 0; page < MOST_PAGES; page++) {
            x.sign('k');
            x.line(page == 0 ? '+' : ' ');
        }
        due("pages at the last page", x.tally(0), MOST_PAGES);
        return x;
    }

    static void print(PrinterRows x, String text, int code, int pages) {
        for (char c : text.toCharArray()) {
            x.sign(c);
        }
        due("line(" + code + ") of '" + text + "'", x.line(code), pages);
    }

    static void signs(PrinterRows x, int c, int times) {
        for (int i = 0; i < times; i++) {
            x.sign(c);
        }
    }

    static int[] tallies(PrinterRows x) {
        int[] all = new int[8];
        for (int what = 0; what < all.length; what++) {
            all[what] = x.tally(what);
        }
        return all;
    }

    static void dueTallies(String call, PrinterRows x, int[] want) {
        for (int what = 0; what < want.length; what++) {
            due(call + ", tally(" + what + ")", x.tally(what), want[what]);
        }
    }

    /** The call is answered so, and what can be seen of the printer (its size is given) is as before. */
    static void dueUnchanged(String call, PrinterRows x, int lines, int columns, IntSupplier made, int want) {
        int[] before = seen(x, lines, columns);
        due(call, made.getAsInt(), want);
        if (!Arrays.equals(before, seen(x, lines, columns))) {
            tell(call + " changed something");
        }
    }

    /** Only the last pages are looked at: a printer is good for 512 calls. */
    private static int[] seen(PrinterRows x, int lines, int columns) {
        int[] tallies = tallies(x);
        int firstPage = Math.max(0, tallies[0] - 4);
        int[] all = Arrays.copyOf(tallies, tallies.length + (tallies[0] - firstPage) * lines * columns);
        for (int i = tallies.length; i < all.length; i++) {
            int place = i - tallies.length;
            all[i] = x.at(firstPage + place / columns / lines, place / columns % lines, place % columns);
        }
        return all;
    }

    static void dueText(PrinterRows x, int page, int line, String want) {
        for (int column = 0; column < want.length(); column++) {
            dueAt(x, page, line, column, want.charAt(column));
        }
    }

    static void dueAt(PrinterRows x, int page, int line, int column, int want) {
        String call = "at(" + page + ", " + line + ", " + column + ")";
        try {
            due(call, x.at(page, line, column), want);
        } catch (ArrayIndexOutOfBoundsException e) {
            tell(call + " threw, due is " + want);
        }
    }

    static void dueNoPlace(PrinterRows x, int page, int line, int column) {
        String call = "at(" + page + ", " + line + ", " + column + ")";
        try {
            int got = x.at(page, line, column);
            tell(call + " answered " + got + ", due is ArrayIndexOutOfBoundsException");
        } catch (ArrayIndexOutOfBoundsException e) {
            // The machine's own exception would begin so; the class has to throw it itself.
            if (String.valueOf(e.getMessage()).startsWith("Index ")) {
                tell(call + " let the machine throw");
            }
        }
    }

    static void due(String call, int got, int want) {
        if (got != want) {
            tell(call + " answered " + got + ", due is " + want);
        }
    }

    static void tell(String what) {
        wrong++;
        System.out.println(about + ": " + what);
    }
}
