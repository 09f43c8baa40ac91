import java.time.LocalDate;
import java.time.LocalDateTime;

/** Promise 13: time; and promise 9's REPORTS of it. */
public final class TimeTest {
    private static final Due TEST = new Due("TimeTest");
    private static final int R = Sender.RUINED;
    private static final int PI = 7;

    public static void main(String[] args) {
        ordinary();
        days();
        localEdges();
        leftOut();
        needsBlocks();
        wrongArguments();
        TEST.end();
    }

    private static void send(Sender sender, int day, int hour, int minute, int sign, int halves) {
        sender.typed(PI, 8, day >> 15, (day << 1 | hour >> 4) & 0xFFFF,
                (hour << 12 | minute << 6 | sign << 5 | halves) & 0xFFFF);
    }

    private static void due(Sender sender, int... wants) {
        for (int what = 0; what < wants.length; what++) {
            TEST.due("time(" + what + ")", sender.desk.time(what), wants[what]);
        }
    }

    private static void ordinary() {
        TEST.about("13: 15 November 2026, 21:19, an hour ahead");
        Sender sender = Sender.synced(PI);
        send(sender, 61359, 21, 19, 0, 2);
        due(sender, 61359, 21, 19, 2, 2026, 11, 15, 6, 2026, 11, 15, 22, 19, -1);
        TEST.due("reports(4)", sender.desk.reports(4), 1);
        TEST.about("13: half an hour below 0");
        send(sender, 61359, 0, 0, 1, 1);
        due(sender, 61359, 0, 0, -1, 2026, 11, 15, 6, 2026, 11, 14, 23, 30, -1);
        TEST.due("reports(4)", sender.desk.reports(4), 2);
        TEST.about("13: 0, told as below 0");
        send(sender, 61359, 0, 0, 1, 0);
        due(sender, 61359, 0, 0, 0, 2026, 11, 15, 6, 2026, 11, 15, 0, 0, -1);
    }

    private static void dueByCalendar(Sender sender, int day, int hour, int minute, int offset) {
        LocalDate first = LocalDate.of(1858, 11, 17);
        LocalDateTime utc = first.plusDays(day).atTime(hour, minute);
        LocalDateTime local = utc.plusMinutes(30L * offset);
        due(sender, day, hour, minute, offset, utc.getYear(), utc.getMonthValue(), utc.getDayOfMonth(),
                utc.getDayOfWeek().getValue() - 1, local.getYear(), local.getMonthValue(),
                local.getDayOfMonth(), local.getHour(), local.getMinute(), -1);
    }

    /** Every DAY that 17 bits can tell; a desk is used for twenty of them. */
    private static void days() {
        Sender sender = null;
        for (int day = 0; day < 1 << 17; day++) {
            TEST.about("13: DAY " + day);
            if (day % 20 == 0) {
                sender = Sender.synced(PI);
            }
            int hour = day % 24;
            int offset = day % 57 - 28;
            send(sender, day, hour, day % 60, offset < 0 ? 1 : 0, Math.abs(offset));
            dueByCalendar(sender, day, hour, day % 60, offset);
        }
    }

    private static void localEdges() {
        TEST.about("13: LOCAL ahead of DAY 0, and behind the last one");
        Sender sender = Sender.synced(PI);
        send(sender, 0, 0, 29, 1, 1);
        due(sender, 0, 0, 29, -1, 1858, 11, 17, 2, 1858, 11, 16, 23, 59);
        send(sender, 131071, 23, 59, 0, 28);
        dueByCalendar(sender, 131071, 23, 59, 28);
        send(sender, 0, 13, 59, 1, 28);
        due(sender, 0, 13, 59, -28, 1858, 11, 17, 2, 1858, 11, 16, 23, 59);
        send(sender, 0, 14, 0, 1, 28);
        due(sender, 0, 14, 0, -28, 1858, 11, 17, 2, 1858, 11, 17, 0, 0);
    }

    private static void leftOut() {
        TEST.about("13: the whole is left out");
        Sender sender = Sender.synced(PI);
        int[][] wrong = {{24, 0, 0}, {31, 0, 0}, {0, 60, 0}, {0, 63, 0}, {0, 0, 29}, {0, 0, 31}};
        for (int[] parts : wrong) {
            send(sender, 61359, parts[0], parts[1], 0, parts[2]);
            send(sender, 61359, parts[0], parts[1], 1, parts[2]);
        }
        TEST.due("reports(4)", sender.desk.reports(4), 0);
        due(sender, -1, -1, -1, -1, -1, -1, -1, -1, -1, -1, -1, -1, -1);
        send(sender, 1, 23, 59, 0, 28);
        send(sender, 2, 24, 0, 0, 0);
        TEST.due("reports(4)", sender.desk.reports(4), 1);
        dueByCalendar(sender, 1, 23, 59, 28);
    }

    private static void needsBlocks() {
        TEST.about("13: 4A needs C and D");
        Sender sender = Sender.synced(PI);
        sender.typed(PI, 8, 0, R, 0);
        sender.typed(PI, 8, 0, 0, R);
        sender.typed(PI, 9, 0, PI, 0);
        TEST.due("reports(4)", sender.desk.reports(4), 0);
        sender.typed(PI, 8, 0b11100, 0, 0);
        due(sender, 0, 0, 0, 0, 1858, 11, 17, 2);
    }

    private static void wrongArguments() {
        TEST.about("13: another what");
        Sender sender = Sender.synced(PI);
        send(sender, 61359, 21, 19, 0, 2);
        int[] wrong = {-1, 13, Integer.MAX_VALUE, Integer.MIN_VALUE};
        for (int what : wrong) {
            TEST.due("time(" + what + ")", sender.desk.time(what), -1);
        }
    }
}
