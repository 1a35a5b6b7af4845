/** Promises 62 and 63: the report and its bytes. */
public final class ReportTest {
    public static void main(String[] args) {
        report();
        emptyReport();
        longestReport();
        outputStays();
        Check.end();
    }

    private static void prints(GhostRooms x, String report) {
        Check.due("length", x.printReport(), report.length());
        Check.due("report", Houses.output(x, report.length()), report);
        for (int index : new int[] {-1, report.length(), 600, Integer.MIN_VALUE, Integer.MAX_VALUE}) {
            Check.refused(x, IndexOutOfBoundsException.class, "byte " + index, () -> x.outputByte(index));
        }
    }

    private static void report() {
        GhostRooms x = Houses.house("house;room a 0;room bc 10 thermo;room d 9 micro;room efghijkl 99 thermo micro;"
                + "room m 10;door m a 3;");
        prints(x, "efghijkl 99tm?\nbc 10t?\nm 10?\nd 9m?\na 0?!\n");
        x.holdSeance(0b10001);
        prints(x, "efghijkl 99tm\nbc 10t\nm 10?\nd 9m\na 0?!\n");
        x.setMode(1);
        x.passNights(1);
        prints(x, "efghijkl 99tm\nbc 10t\nm 10?!\nd 9m\na 1?\n");
        x.holdSeance(0b10000);
        prints(x, "efghijkl 99tm\nbc 10t\nm 10?!\nd 9m\na 1\n");
        GhostRooms y = Houses.house("house;room a 9 thermo micro;");
        prints(y, "a 9tm?!\n");
    }

    private static void emptyReport() {
        GhostRooms x = Houses.house("house;room a 5;");
        prints(x, "a 5?!\n");
        Houses.read(x, "house;");
        prints(x, "");
    }

    private static void longestReport() {
        StringBuilder text = new StringBuilder("house;");
        StringBuilder report = new StringBuilder();
        for (char c = 'a'; c <= 'l'; c++) {
            text.append("room bcdefgh").append(c).append(" 99 thermo micro;");
            report.append("bcdefgh").append(c).append(" 99tm?").append(c == 'c' ? "!" : "").append("\n");
        }
        GhostRooms x = Houses.house(text + "ghost bcdefghc;");
        prints(x, report.toString());
    }

    private static void outputStays() {
        GhostRooms x = Houses.house("house;room a 5;");
        x.printReport();
        x.warm(0, 3);
        x.passNights(1);
        Houses.addRoom(x, "b", 9);
        Check.due("the old output", Houses.output(x, 6), "a 5?!\n");
        x.undo();
        Check.due("the old output", Houses.output(x, 6), "a 5?!\n");
        prints(x, "a 3?!\n");
    }
}
