import java.time.LocalDate;
import java.time.LocalDateTime;

/** Edges of 4A and of the Term TIME, and of promise 13. */
final class TimeEdges {
    private static final int R = Sender.RUINED;
    private static final int PI = 7;

    private TimeEdges() {
    }

    static void run(Edges t) {
        needsBoth(t);
        fields(t);
        leftOut(t);
        elseItIsTheTime(t);
        firstDay(t);
        leapYears(t);
        utcOrLocal(t);
        localAroundMidnight(t);
        whats(t);
        weekday(t);
        without(t);
        offsetMayBeNone(t);
    }

    private static void send(Sender sender, int day, int hour, int minute, int sign, int halves) {
        sender.typed(PI, 8, day >> 15, (day << 1 | hour >> 4) & 0xFFFF,
                (hour << 12 | minute << 6 | sign << 5 | halves) & 0xFFFF);
    }

    private static Sender sent(int day, int hour, int minute, int sign, int halves) {
        Sender sender = Sender.synced(PI);
        send(sender, day, hour, minute, sign, halves);
        return sender;
    }

    private static void byCalendar(Edges t, int day, int hour, int minute, int offset) {
        LocalDateTime utc = LocalDate.of(1858, 11, 17).plusDays(day).atTime(hour, minute);
        LocalDateTime local = utc.plusMinutes(30L * offset);
        t.time(sent(day, hour, minute, offset < 0 ? 1 : 0, Math.abs(offset)), day, hour, minute, offset,
                utc.getYear(), utc.getMonthValue(), utc.getDayOfMonth(), utc.getDayOfWeek().getValue() - 1,
                local.getYear(), local.getMonthValue(), local.getDayOfMonth(), local.getHour(), local.getMinute(), -1);
    }

    private static void needsBoth(Edges t) {
        t.edge(13, "4A: C and D, both known:");
        Sender sender = Sender.synced(PI);
        sender.typed(PI, 8, 0, R, 0);
        sender.typed(PI, 8, 0, 0, R);
        sender.typed(PI, 8, 0, R, R);
        sender.typed(PI, 9, 0, 0, 0);
        t.reports(sender, 4, 0);
        t.time(sender, -1, -1, -1);
        sender.typed(PI, 8, 0, 0, 0);
        t.reports(sender, 4, 1);
    }

    private static void fields(Edges t) {
        t.edge(13, "the DAY: b1 b0 of BLOCK 1, then b15 .. b1 of C; the hour: b0 of C, then b15 .. b12 of D; "
                + "the minute b11 .. b6; b5 tells whether the OFFSET is below 0, b4 .. b0 how many half hours it is.");
        int[] days = {0, 1, 0x7FFF, 0x8000, 0xFFFF, 0x10000, 0x1FFFF};
        for (int day : days) {
            t.time(sent(day, 0, 0, 0, 0), day, 0, 0, 0);
            t.time(sent(day, 23, 59, 1, 28), day, 23, 59, -28);
        }
        int[] hours = {15, 16};
        for (int hour : hours) {
            t.time(sent(0, hour, 0, 0, 0), 0, hour, 0, 0);
        }
        t.time(sent(0, 0, 32, 0, 0), 0, 0, 32, 0);
        t.time(sent(0, 0, 1, 0, 16), 0, 0, 1, 16);
        t.time(sent(0, 0, 0, 1, 1), 0, 0, 0, -1);
        // b4 .. b2 of BLOCK 1 are no part of it.
        Sender sender = Sender.synced(PI);
        sender.typed(PI, 8, 0b11100, 0, 0);
        t.time(sender, 0, 0, 0, 0, 1858, 11, 17, 2);
    }

    private static void leftOut(Edges t) {
        t.edge(13, "An hour above 23, a minute above 59, an OFFSET above 28: the whole is left out.");
        int[][] wrong = {{24, 0, 0}, {25, 0, 0}, {31, 0, 0}, {0, 60, 0}, {0, 63, 0}, {0, 0, 29}, {0, 0, 31},
            {24, 60, 29}, {23, 60, 28}, {23, 59, 29}};
        for (int[] parts : wrong) {
            for (int sign = 0; sign <= 1; sign++) {
                t.time(sent(61359, parts[0], parts[1], sign, parts[2]), -1, -1, -1, -1, -1, -1, -1, -1, -1, -1, -1, -1, -1);
                // The one before it stays, in every part.
                Sender sender = sent(61359, 21, 19, 0, 2);
                send(sender, 1, parts[0], parts[1], sign, parts[2]);
                t.time(sender, 61359, 21, 19, 2, 2026, 11, 15, 6, 2026, 11, 15, 22, 19);
                t.reports(sender, 4, 1);
            }
        }
    }

    private static void elseItIsTheTime(Edges t) {
        t.edge(13, "Else it is the TIME.");
        int[][] most = {{23, 59, 28}, {23, 0, 0}, {0, 59, 0}, {0, 0, 28}, {0, 0, 0}};
        for (int[] parts : most) {
            for (int sign = 0; sign <= 1; sign++) {
                Sender sender = sent(61359, parts[0], parts[1], sign, parts[2]);
                t.time(sender, 61359, parts[0], parts[1], sign == 1 ? -parts[2] : parts[2]);
                t.reports(sender, 4, 1);
            }
        }
    }

    private static void firstDay(Edges t) {
        t.edge(13, "The TIME's date, of a DAY (0 is 17 November 1858,");
        t.time(sent(0, 0, 0, 0, 0), 0, 0, 0, 0, 1858, 11, 17, 2, 1858, 11, 17, 0, 0, -1);
        t.time(sent(1, 0, 0, 0, 0), 1, 0, 0, 0, 1858, 11, 18, 3);
        t.time(sent(44, 0, 0, 0, 0), 44, 0, 0, 0, 1858, 12, 31, 4);
        t.time(sent(45, 0, 0, 0, 0), 45, 0, 0, 0, 1859, 1, 1, 5);
        byCalendar(t, 131071, 0, 0, 0);
    }

    /** The ends of February and of the year: each fourth year, and each hundred years that there are. */
    private static void leapYears(Edges t) {
        t.edge(13, "the days that follow by the calendar that has leap years each fourth, but of hundreds each fourth alone):");
        int[] years = {1859, 1860, 1899, 1900, 1903, 1904, 1999, 2000, 2001, 2004, 2026, 2028, 2096, 2099, 2100, 2101,
            2104, 2200, 2204};
        for (int year : years) {
            LocalDate first = LocalDate.of(1858, 11, 17);
            LocalDate[] dates = {LocalDate.of(year, 1, 1), LocalDate.of(year, 2, 28), LocalDate.of(year, 2, 28).plusDays(1),
                LocalDate.of(year, 3, 1), LocalDate.of(year, 12, 31)};
            for (LocalDate date : dates) {
                byCalendar(t, (int) (date.toEpochDay() - first.toEpochDay()), 12, 0, 0);
            }
        }
        // The last days of each month.
        for (int month = 1; month <= 12; month++) {
            LocalDate end = LocalDate.of(2027, month, 1).plusMonths(1).minusDays(1);
            byCalendar(t, (int) (end.toEpochDay() - LocalDate.of(1858, 11, 17).toEpochDay()), 23, 30, 1);
        }
        t.time(sent(15078, 0, 0, 0, 0), 15078, 0, 0, 0, 1900, 2, 28);
        t.time(sent(15079, 0, 0, 0, 0), 15079, 0, 0, 0, 1900, 3, 1);
        t.time(sent(51603, 0, 0, 0, 0), 51603, 0, 0, 0, 2000, 2, 29);
    }

    private static void utcOrLocal(Edges t) {
        t.edge(13, "as it is there (UTC), or LOCAL: with OFFSET half hours more (or less).");
        for (int offset = -28; offset <= 28; offset++) {
            byCalendar(t, 61359, 12, 30, offset);
        }
        byCalendar(t, 0, 0, 0, -28);
        byCalendar(t, 131071, 23, 59, 28);
    }

    /** The minute ahead of and behind each turn of the day, the month and the year. */
    private static void localAroundMidnight(Edges t) {
        t.edge(13, "as it is there (UTC), or LOCAL: with OFFSET half hours more (or less).");
        Sender sender = sent(0, 0, 29, 1, 1);
        t.time(sender, 0, 0, 29, -1, 1858, 11, 17, 2, 1858, 11, 16, 23, 59);
        t.time(sent(0, 0, 30, 1, 1), 0, 0, 30, -1, 1858, 11, 17, 2, 1858, 11, 17, 0, 0);
        t.time(sent(0, 13, 59, 1, 28), 0, 13, 59, -28, 1858, 11, 17, 2, 1858, 11, 16, 23, 59);
        t.time(sent(0, 14, 0, 1, 28), 0, 14, 0, -28, 1858, 11, 17, 2, 1858, 11, 17, 0, 0);
        // 31 December 2026 and 1 January 2027; 28 February 2027.
        t.time(sent(61405, 23, 29, 0, 1), 61405, 23, 29, 1, 2026, 12, 31, 3, 2026, 12, 31, 23, 59);
        t.time(sent(61405, 23, 30, 0, 1), 61405, 23, 30, 1, 2026, 12, 31, 3, 2027, 1, 1, 0, 0);
        t.time(sent(61406, 0, 0, 1, 1), 61406, 0, 0, -1, 2027, 1, 1, 4, 2026, 12, 31, 23, 30);
        t.time(sent(61464, 10, 0, 0, 28), 61464, 10, 0, 28, 2027, 2, 28, 6, 2027, 3, 1, 0, 0);
        t.time(sent(61464, 9, 59, 0, 28), 61464, 9, 59, 28, 2027, 2, 28, 6, 2027, 2, 28, 23, 59);
    }

    private static void whats(Edges t) {
        t.edge(13, "Of the TIME: 0 the DAY, 1 the hour, 2 the minute, 3 the OFFSET (half hours, below 0 too), "
                + "4 year, 5 month, 6 day as they are there, 7 the weekday (0 Monday), "
                + "8 to 12 year, month, day, hour, minute LOCAL.");
        t.time(sent(61359, 0, 15, 1, 3), 61359, 0, 15, -3, 2026, 11, 15, 6, 2026, 11, 14, 22, 45, -1);
        t.time(sent(61359, 0, 15, 1, 0), 61359, 0, 15, 0, 2026, 11, 15, 6, 2026, 11, 15, 0, 15, -1);
        // The latest one alone.
        Sender sender = sent(61359, 21, 19, 0, 2);
        send(sender, 0, 0, 0, 0, 0);
        t.time(sender, 0, 0, 0, 0, 1858, 11, 17, 2, 1858, 11, 17, 0, 0, -1);
    }

    private static void weekday(Edges t) {
        t.edge(13, "7 the weekday (0 Monday)");
        // 9 November 2026 is a Monday; of the DAY as it is there, whichever day it is LOCAL.
        for (int i = 0; i < 15; i++) {
            for (int sign = 0; sign <= 1; sign++) {
                t.due("time(7)", sent(61353 + i, sign == 1 ? 0 : 23, 0, sign, 28).desk.time(7), i % 7);
            }
        }
        t.due("time(7)", sent(0, 0, 0, 0, 0).desk.time(7), 2);
    }

    private static void without(Edges t) {
        t.edge(13, "NONE without one, and for another what");
        int[] wrong = {-1, 13, 14, Integer.MIN_VALUE, Integer.MAX_VALUE};
        Sender[] senders = {new Sender(), Sender.synced(PI), sent(61359, 21, 19, 0, 2)};
        for (Sender sender : senders) {
            for (int what : wrong) {
                t.due("time(" + what + ")", sender.desk.time(what), -1);
            }
        }
        for (int what = 0; what <= 12; what++) {
            t.due("time(" + what + ")", senders[0].desk.time(what), -1);
            t.due("time(" + what + ")", senders[1].desk.time(what), -1);
        }
    }

    private static void offsetMayBeNone(Edges t) {
        t.edge(13, "(3 may be NONE, too).");
        Sender sender = sent(61359, 21, 19, 1, 1);
        t.time(sender, 61359, 21, 19, RdsDesk.NONE, 2026, 11, 15, 6, 2026, 11, 15, 20, 49);
        t.reports(sender, 4, 1);
    }
}
