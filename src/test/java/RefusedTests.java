import java.util.function.Consumer;
import java.util.function.ToIntFunction;

/**
 * What a refused call, and a call that only asks, leaves unchanged: all of it. Each is put to a board by itself, and
 * all that the board tells then is the same as without that call.
 */
public final class RefusedTests extends Edges {
    private static Consumer<LearningPaid> script;
    private static State before;

    public static void main(String[] args) {
        on(Edges::town);
        things();
        texts();
        leaving();
        courses();
        claims();
        months();
        choices();
        books();
        asked();
        full();
        oddBoards();
        Checks.finish("RefusedTests");
    }

    private static void on(Consumer<LearningPaid> board) {
        script = board;
        before = State.all(board);
    }

    private static int bit(boolean answer) {
        return answer ? 1 : 0;
    }

    private static void same(String call, ToIntFunction<LearningPaid> asked, int want) {
        int[] got = new int[1];
        State behind = State.all(x -> {
            script.accept(x);
            got[0] = asked.applyAsInt(x);
        });
        Checks.due(call, got[0], want);
        String other = behind.otherThan(before);
        Checks.isTrue(call + " leaves all as it was, but " + other, other.isEmpty());
    }

    private static void things() {
        for (int[] v : new int[][] {{13, 0, 0, 0}, {81, 0, 0, 0}, {LEAST, 0, 0, 0}, {MOST, 0, 0, 0}, {20, -1, 0, 0},
            {20, 8, 0, 0}, {20, LEAST, 0, 0}, {20, MOST, 0, 0}, {20, 0, -1, 0}, {20, 0, 5001, 0}, {20, 0, LEAST, 0},
            {20, 0, MOST, 0}, {20, 0, 0, -2}, {20, 0, 0, 5}, {20, 0, 0, 20}, {20, 0, 0, LEAST}, {20, 0, 0, MOST}}) {
            same("hand(" + v[0] + ", " + v[1] + ", " + v[2] + ", " + v[3] + ")", x -> x.hand(v[0], v[1], v[2], v[3]), NONE);
        }
        for (int[] v : new int[][] {{-1, 9, 9, 9}, {8, 9, 9, 9}, {LEAST, 9, 9, 9}, {MOST, 9, 9, 9}, {2, -1, 9, 9},
            {2, 51, 9, 9}, {2, LEAST, 9, 9}, {2, MOST, 9, 9}, {2, 9, 0, 9}, {2, 9, 201, 9}, {2, 9, -1, 9},
            {2, 9, LEAST, 9}, {2, 9, MOST, 9}, {2, 9, 9, -1}, {2, 9, 9, 101}, {2, 9, 9, LEAST}, {2, 9, 9, MOST}}) {
            same("trade(" + v[0] + ", " + v[1] + ", " + v[2] + ", " + v[3] + ")",
                x -> bit(x.trade(v[0], v[1], v[2], v[3])), 0);
        }
        for (int[] v : new int[][] {{-1, 5}, {8, 5}, {LEAST, 5}, {MOST, 5}, {4, -1}, {4, 121}, {4, LEAST}, {4, MOST}}) {
            same("paper(" + v[0] + ", " + v[1] + ")", x -> bit(x.paper(v[0], v[1])), 0);
        }
        int[] course = {1, 2, 3, 4, 5, 6, 7, 1, 16};
        int[][] wrong = {{-1, 8}, {-1, 8}, {0, 201}, {0, 21}, {-1, 5001}, {-1, 8, 600}, {-1, 5, 600}, {-1, 8}, {-1, 256}};
        for (int place = 0; place < 9; place++) {
            for (int value : wrong[place]) {
                badCourse(course, place, value);
            }
            badCourse(course, place, LEAST);
            badCourse(course, place, MOST);
        }
        for (int[] v : new int[][] {{-1, 5}, {7, 5}, {59, 5}, {60, 5}, {LEAST, 5}, {MOST, 5}, {0, -1}, {0, 5001},
            {0, LEAST}, {0, MOST}}) {
            same("wage(" + v[0] + ", " + v[1] + ")", x -> bit(x.wage(v[0], v[1])), 0);
        }
    }

    private static void badCourse(int[] course, int place, int value) {
        int[] v = course.clone();
        v[place] = value;
        same("course with " + value + " in place " + place,
            x -> x.course(v[0], v[1], v[2], v[3], v[4], v[5], v[6], v[7], v[8]), NONE);
    }

    private static void texts() {
        for (int n : new int[] {-1, 16, 20, 300, LEAST, MOST}) {
            same("end(" + n + ")", x -> x.end(n), NONE);
        }
        for (int[] v : new int[][] {{-1, 0}, {3, 0}, {9, 0}, {10, 0}, {LEAST, 0}, {MOST, 0}, {0, -1}, {0, 600},
            {0, LEAST}, {0, MOST}}) {
            same("ruling(" + v[0] + ", " + v[1] + ")", x -> x.ruling(v[0], v[1]), NONE);
        }
        for (int what : new int[] {-1, 2, LEAST, MOST}) {
            same("fault(" + what + ")", x -> x.fault(what), NONE);
        }
        for (int[] v : new int[][] {{-1, 0, 0}, {7, 0, 0}, {LEAST, 0, 0}, {MOST, 0, 0}, {1, -1, 0}, {1, 600, 0},
            {1, LEAST, 0}, {1, MOST, 0}, {1, 0, -1}, {1, 0, 600}, {1, 0, LEAST}, {1, 0, MOST}}) {
            same("ruled(" + v[0] + ", " + v[1] + ", " + v[2] + ")", x -> x.ruled(v[0], v[1], v[2]), -2);
        }
    }

    private static void leaving() {
        for (int[] v : new int[][] {{-1, 1}, {7, 1}, {59, 1}, {60, 1}, {LEAST, 1}, {MOST, 1}, {0, -2}, {0, 5}, {0, 20},
            {0, LEAST}, {0, MOST}, {0, 0}, {1, NONE}, {3, NONE}, {2, 0}}) {
            same("go(" + v[0] + ", " + v[1] + ")", x -> x.go(v[0], v[1]), NONE);
        }
    }

    private static void courses() {
        for (int[] v : new int[][] {{-1, 4}, {7, 4}, {60, 4}, {LEAST, 4}, {MOST, 4}, {2, -1}, {2, 8}, {2, 24}, {2, LEAST},
            {2, MOST}}) {
            same("join(" + v[0] + ", " + v[1] + ")", x -> x.join(v[0], v[1]), NONE);
        }
        same("join without a FIRM", x -> x.join(3, 3), NONE);
        same("join what has begun", x -> x.join(6, 5), NONE);
        same("join without SEATS left", x -> x.join(6, 4), NONE);
        same("join what has MONTHS in common", x -> x.join(0, 3), NONE);
        same("join without a PAPER", x -> x.join(2, 3), NONE);
        same("join without another PAPER", x -> x.join(0, 6), NONE);
        for (int joined : new int[] {-1, 8, 119, 120, LEAST, MOST, 4, 0, 1, 7}) {
            same("giveUp(" + joined + ")", x -> bit(x.giveUp(joined)), 0);
        }
        for (int[] v : new int[][] {{-1, 60}, {8, 60}, {119, 60}, {120, 60}, {LEAST, 60}, {MOST, 60}, {4, 60}, {5, 60},
            {0, 60}, {1, 60}, {3, 70}, {7, -1}, {7, 101}, {7, LEAST}, {7, MOST}}) {
            same("marked(" + v[0] + ", " + v[1] + ")", x -> x.marked(v[0], v[1]), NONE);
        }
    }

    private static void claims() {
        int[][] wrong = {{-1, -5}, {8, -5}, {119, -5}, {120, -5}, {LEAST, -5}, {MOST, -5}, {4, -5}, {5, -1}, {7, -1},
            {0, -1}, {2, -1}, {1, -2}};
        for (int[] v : wrong) {
            same("claim(" + v[0] + ")", x -> x.claim(v[0]), v[1]);
        }
        for (int joined : new int[] {-1, 8, 119, 120, LEAST, MOST, 1, 3, 4, 5, 7}) {
            same("appeal(" + joined + ")", x -> bit(x.appeal(joined)), 0);
        }
    }

    private static void months() {
        for (int n : new int[] {0, -1, 61, 600, LEAST, MOST}) {
            same("months(" + n + ")", x -> x.months(n), NONE);
        }
    }

    private static void choices() {
        for (int[] v : new int[][] {{-1, 5}, {5, 5}, {19, 5}, {20, 5}, {LEAST, 5}, {MOST, 5}, {0, -1001}, {0, 1001},
            {0, LEAST}, {0, MOST}}) {
            same("result(" + v[0] + ", " + v[1] + ")", x -> bit(x.result(v[0], v[1])), 0);
        }
        same("places(-1, 0)", x -> x.places(-1, 0), -3);
        same("places(2001, 0)", x -> x.places(2001, 0), -3);
        same("proves(7, 1, 0)", x -> (int) x.proves(7, 1, 0), NONE);
        same("trial(3, 3, 0)", x -> x.trial(3, 3, 0), -1000000);
        same("drawn(3, 7, 0)", x -> x.drawn(3, 7, 0), NONE);
        same("tried(3, 0)", x -> (int) x.tried(3, 0), NONE);
    }

    private static void books() {
        for (int year : new int[] {-1, 50, LEAST, MOST}) {
            same("sheet(" + year + ")", x -> bit(x.sheet(year)), 0);
        }
        for (int firm : new int[] {-1, 20, LEAST, MOST}) {
            same("alter(" + firm + ", true, 1)", x -> bit(x.alter(firm, true, 1)), 0);
            same("alter(" + firm + ", false, 1)", x -> bit(x.alter(firm, false, 1)), 0);
        }
        same("alter(0, true, 0)", x -> bit(x.alter(0, true, 0)), 0);
        same("alter(0, false, 0)", x -> bit(x.alter(0, false, 0)), 0);
        same("check(-1)", x -> x.check(-1), NONE);
        same("check(3)", x -> x.check(3), NONE);
    }

    /** Calls that only ask. */
    private static void asked() {
        same("joined(0, 5)", x -> x.joined(0, 5), 83);
        same("has(0, 4, 9)", x -> x.has(0, 4, 9), 1);
        same("bound(0)", x -> x.bound(0), 600 * 16 / 20 + 100 * 19 / 20);
        same("owed(1, 0)", x -> x.owed(1, 0), 300 * 19 / 20);
        same("firmOf(0, 0, 2)", x -> x.firmOf(0, 0, 2), 500);
        same("handOf(5, 2)", x -> x.handOf(5, 2), 333);
        same("trainer(3, 2)", x -> x.trainer(3, 2), 80 + 40 + 90);
        same("way(2, 5, 0)", x -> x.way(2, 5, 0), NONE);
        same("way(0, 5, 0)", x -> x.way(0, 5, 0), 9);
        same("places(12, -1)", x -> x.places(12, -1), 4 * 9 + 3);
        same("proves(7, 1, 1)", x -> (int) x.proves(7, 1, 1), 7 + 4 * 7);
        same("trial(15, 1, 0)", x -> x.trial(15, 1, 0), -9 * 3 - (-2 + 5 + 12));
        same("drawn(1, 1, 0)", x -> x.drawn(1, 1, 0), 0);
        same("drawn(2, 1, 1)", x -> x.drawn(2, 1, 1), 2);
        same("tried(2, 1)", x -> (int) x.tried(2, 1), 14);
        same("tried(0, 0)", x -> (int) x.tried(0, 0), 100 * 4 * 5);
        same("check(0)", x -> x.check(0), 1);
        same("check(1)", x -> x.check(1), 1);
        same("check(2)", x -> x.check(2), 1);
        same("about(7)", x -> x.about(7), 2);
        same("about(8)", x -> x.about(8), 15);
        same("fund", x -> (int) x.fund(), 2000 - 83 - 43);
        same("fault(0)", x -> x.fault(0), 1);
        same("fault(1)", x -> x.fault(1), 5);
        same("ruled(1, 5, 5)", x -> x.ruled(1, 5, 5), 0);
        same("ruled(1, 6, 5)", x -> x.ruled(1, 6, 5), 1);
        same("end(15), all that there is", x -> x.end(15), 15);
    }

    /** Boards on which there is no room for one more. */
    private static void full() {
        on(x -> {
            for (int i = 0; i < 20; i++) {
                x.firm();
            }
        });
        same("the 21st firm", LearningPaid::firm, NONE);
        on(x -> {
            x.firm();
            for (int i = 0; i < 60; i++) {
                x.hand(20 + i, i % 8, 10 * i, i % 2 - 1);
            }
        });
        same("the 61st hand", x -> x.hand(20, 0, 0, 0), NONE);
        on(x -> {
            for (int i = 0; i < 24; i++) {
                x.course(i % 8, 1, 1, 1 + i % 20, 1, i, i, i % 8, 0);
            }
        });
        same("the 25th course", x -> x.course(1, 1, 1, 1, 1, 1, 1, 1, 1), NONE);
        on(x -> {
            for (int i = 0; i < 15; i++) {
                x.feed(0x6c657679, 0x20313b20, 0x20202020, 0x20202020, 0x20202020);
            }
        });
        same("more than 300 bytes", x -> x.feed(0x20202020, 0, 0, 0, 0), NONE);
        on(x -> {
            for (int i = 0; i < 15; i++) {
                x.feed(0x6c657679, 0x20313b20, 0x20202020, 0x20202020, 0x20202020);
            }
            x.end(281);
        });
        same("301 bytes", x -> x.feed(0x20202020, 0, 0, 0, 0), NONE);
        same("end(282) of 281", x -> x.end(282), NONE);
        on(x -> {
            x.firm();
            for (int i = 0; i < 10; i++) {
                Checks.text(x, "levy " + i + ";");
            }
            x.image();
            Checks.tape(x, "levy");
        });
        same("the 11th text", LearningPaid::text, NONE);
        on(x -> {
            x.firm();
            Checks.text(x, "levy 5;");
            Checks.text(x, "mark 5;");
            for (int i = 0; i < 40; i++) {
                x.ruling(0, i);
            }
        });
        same("the 41st ruling", x -> x.ruling(1, 0), NONE);
        on(x -> {
            x.firm();
            for (int i = 0; i < 20; i++) {
                x.hand(20, 0, 100, 0);
            }
            for (int i = 0; i < 7; i++) {
                course(x, i, i);
            }
            for (int i = 0; i < 120; i++) {
                x.join(i % 20, i / 20);
            }
        });
        same("the 121st that joins", x -> x.join(0, 6), NONE);
    }

    /** Boards on which a call is refused for what the town hasn't. */
    private static void oddBoards() {
        on(x -> {
            x.firm();
            go(x, 590);
        });
        same("beyond 600", x -> x.months(11), NONE);
        on(x -> {
            x.firm();
            x.hand(20, 0, 100, 0);
            course(x, 599, 599);
            go(x, 600);
        });
        same("beyond 600 from 600", x -> x.months(1), NONE);
        same("joins at 600", x -> x.join(0, 0), NONE);
        on(x -> {
            x.firm();
            x.hand(20, 0, 100, 0);
        });
        same("alter, but none was taken", x -> bit(x.alter(0, true, 1)), 0);
        same("alter, but none was taken", x -> bit(x.alter(0, false, 1)), 0);
        same("check, but none was taken", x -> x.check(0), NONE);
        same("fault ahead of any text", x -> x.fault(0), NONE);
        on(x -> {
            x.firm();
            x.hand(20, 0, 100, 0);
            Checks.text(x, "levy 9000; cap 9999;");
            x.ruling(0, 0);
            course(x, 0, 0);
            x.join(0, 0);
            go(x, 7);
            x.marked(0, 90);
        });
        same("claim behind its proof", x -> x.claim(0), -3);
        on(x -> {
            x.firm();
            x.hand(20, 0, 100, 0);
            Checks.text(x, "levy 10; cap 9999; back 11;");
            x.ruling(0, 0);
            course(x, 0, 0);
            x.join(0, 0);
            x.months(1);
            x.marked(0, 90);
        });
        same("claim of more than the fund has", x -> x.claim(0), -4);
    }
}
